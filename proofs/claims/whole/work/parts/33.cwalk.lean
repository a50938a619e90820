/-! the class, walked: part 4 -/
abbrev r_JLat_charAt2 : Room := { frames := 2, cells := 0, slots := 0, locals := 43 }
def f_JLat_charAt2 (post : Int32 → SS → Prop) (σ : SS) (j0 : Nat) (x1 : Int32) : Prop := (j0 < 50) ∧ f_JStr_checkIndex2 (fun σ_2 => vp_in x1 (kS_len j0) ∧ post ((((kS_byt j0 x1.toNatClampNeg) &&& 255).toUInt32 % 65536).toInt32) σ_2) σ x1 (Int32.ofNat (kS_len j0))
section
variable {p : Program} {l : Launch} {e : Env} {s : State} {m : MethodId} {args : Array Value} {below : List Frame} {meth : Method} {c : Code} {Q : State → Prop} {D : va_G} {cA : Nat → ClassId} {a : Nat → Nat} {ad : Nat → Nat → Nat} {A : Nat → Prop}
set_option maxHeartbeats 4000000 in
set_option maxRecDepth 100000 in
theorem e_JLat_charAt2 (fx : CallFix p m c b_JLat_charAt2 2 s args GW "java/lang/StringLatin1") {post : Int32 → SS → Prop} (HR : RetI p l e r_JLat_charAt2 s m args below meth c Q D vcl (tyl cA) (wC cA a) (XC ad) A b_JLat_charAt2 .char (fun r σ => narrow .char (.int r) = .int r ∧ post r σ)) {σ : SS} {j0 : Nat} {x1 : Int32} {H : Heap} {locs : List Loc} {ls : Array Slot} (h : f_JLat_charAt2 post σ j0 x1) (hw : CX D vcl (tyl cA) (wC cA a σ) (XC ad) A s H locs) (hl : lv_has ls 2 [(0, .ref (ad 3 j0)), (1, .int x1)]) : W p l e r_JLat_charAt2 s m args below meth c H locs 0 0 Q (F0 m 0 ls []) := by
  have hx := fx.1
  have hb := fx.2.1
  unfold f_JLat_charAt2 at h
  refine lv_iload_n (pc := 0) hx hb d_JLat_charAt2_0 rfl (lv_at hl 1 rfl) ?_
  refine lv_aload_n (pc := 1) hx hb d_JLat_charAt2_1 rfl (lv_at hl 0 rfl) ?_
  have b_1 := h.1
  replace h := h.2
  refine anK (pc := 2) fx hw b_1 d_JLat_charAt2_2 ?_
  refine rsV (pc := 3) hw (rnS (pc := 3) xtC fx hw (c_JStr_checkIndex2 h _) cw_JLat_9 rfl ⟨Nat.le_of_ble_eq_true rfl, Nat.le_of_ble_eq_true rfl⟩ hl.1 (Nat.le_of_ble_eq_true rfl) d_JLat_charAt2_3 ⟨Nat.zero_le _, Nat.zero_le _⟩) (fun σ_2 H locs hw h => ?_)
  refine lv_aload_n (pc := 6) hx hb d_JLat_charAt2_6 rfl (lv_at hl 0 rfl) ?_
  refine lv_iload_n (pc := 7) hx hb d_JLat_charAt2_7 rfl (lv_at hl 1 rfl) ?_
  refine alK (pc := 8) fx hw b_1 h.1 d_JLat_charAt2_8 ?_
  replace h := h.2
  refine lv_sipush (pc := 9) (v := 255) hx hb d_JLat_charAt2_9 (by decide) ?_
  refine lv_iand (pc := 12) hx hb d_JLat_charAt2_12 ?_
  refine lv_i2c (pc := 13) hx hb d_JLat_charAt2_13 rfl ?_
  exact HR (pk_nc _) d_JLat_charAt2_14 ⟨(pk_nc _), h⟩ hw
end
theorem c_JLat_charAt2 {l : Launch} {D : va_G} {cA : Nat → ClassId} {a : Nat → Nat} {ad : Nat → Nat → Nat} {σ : SS} {post : Int32 → SS → Prop} {j0 : Nat} {x1 : Int32} (h : f_JLat_charAt2 post σ j0 x1) : mI l y_JLat_charAt2 b_JLat_charAt2 2 (some .char) 2 43 D vcl (tyl cA) (wC cA a) (XC ad) σ [.ref (ad 3 j0), .int x1] (fun r σ => narrow .char (.int r) = .int r ∧ post r σ) := met_I (by decide) (Nat.le_of_ble_eq_true rfl) (fun p e s m args below meth c A Q fx HR H ls hw hl => e_JLat_charAt2  fx HR h hw hl)
abbrev r_JStr_charAt1 : Room := { frames := 3, cells := 0, slots := 0, locals := 64 }
def f_JStr_charAt1 (post : Int32 → SS → Prop) (σ : SS) (j0 : Nat) (x1 : Int32) : Prop := (j0 < 50) ∧ f_JStr_isLatin10 (fun r_3 σ_2 => br (r_3 = 0) (False) (f_JLat_charAt2 (fun r_5 σ_4 => post r_5 σ_4) σ_2 j0 x1)) σ j0
section
variable {p : Program} {l : Launch} {e : Env} {s : State} {m : MethodId} {args : Array Value} {below : List Frame} {meth : Method} {c : Code} {Q : State → Prop} {D : va_G} {cA : Nat → ClassId} {a : Nat → Nat} {ad : Nat → Nat → Nat} {A : Nat → Prop}
set_option maxHeartbeats 4000000 in
set_option maxRecDepth 100000 in
theorem e_JStr_charAt1 (fx : CallFix p m c b_JStr_charAt1 2 s args GW "java/lang/String") {post : Int32 → SS → Prop} (HR : RetI p l e r_JStr_charAt1 s m args below meth c Q D vcl (tyl cA) (wC cA a) (XC ad) A b_JStr_charAt1 .char (fun r σ => narrow .char (.int r) = .int r ∧ post r σ)) {σ : SS} {j0 : Nat} {x1 : Int32} {H : Heap} {locs : List Loc} {ls : Array Slot} (h : f_JStr_charAt1 post σ j0 x1) (hw : CX D vcl (tyl cA) (wC cA a σ) (XC ad) A s H locs) (hl : lv_has ls 2 [(0, .ref (ad 2 j0)), (1, .int x1)]) : W p l e r_JStr_charAt1 s m args below meth c H locs 0 0 Q (F0 m 0 ls []) := by
  have hx := fx.1
  have hb := fx.2.1
  unfold f_JStr_charAt1 at h
  refine lv_aload_n (pc := 0) hx hb d_JStr_charAt1_0 rfl (lv_at hl 0 rfl) ?_
  have b_1 := h.1
  replace h := h.2
  refine rsI (pc := 1) hw (rnV (pc := 1) xtC fx hw (c_JStr_isLatin10 h _) cw_JStr_492 (rcK hw b_1) rfl ⟨Nat.le_of_ble_eq_true rfl, Nat.le_of_ble_eq_true rfl⟩ hl.1 (Nat.le_of_ble_eq_true rfl) d_JStr_charAt1_1 ⟨Nat.zero_le _, Nat.zero_le _⟩) (fun r_3 σ_2 H locs hw h => ?_)
  have zr_3 := h.1
  replace h := h.2
  refine lv_if_eq (pc := 4) (tgt := 16) hx hb d_JStr_charAt1_4 (by decide) (fun c9 => ?_) (fun c9 => ?_)
  · replace h := h.1 c9
    refine lv_aload_n (pc := 16) hx hb d_JStr_charAt1_16 rfl (lv_at hl 0 rfl) ?_
    refine gK_value (pc := 17) fx hw b_1 kw_1551 d_JStr_charAt1_17 ?_
    refine lv_iload_n (pc := 20) hx hb d_JStr_charAt1_20 rfl (lv_at hl 1 rfl) ?_
    exact h.elim
  · replace h := h.2 c9
    refine lv_aload_n (pc := 7) hx hb d_JStr_charAt1_7 rfl (lv_at hl 0 rfl) ?_
    refine gK_value (pc := 8) fx hw b_1 kw_1551 d_JStr_charAt1_8 ?_
    refine lv_iload_n (pc := 11) hx hb d_JStr_charAt1_11 rfl (lv_at hl 1 rfl) ?_
    refine rsI (pc := 12) hw (rnS (pc := 12) xtC fx hw (c_JLat_charAt2 h _) cw_JStr_495 rfl ⟨Nat.le_of_ble_eq_true rfl, Nat.le_of_ble_eq_true rfl⟩ hl.1 (Nat.le_of_ble_eq_true rfl) d_JStr_charAt1_12 ⟨Nat.zero_le _, Nat.zero_le _⟩) (fun r_5 σ_4 H locs hw h => ?_)
    have zr_5 := h.1
    replace h := h.2
    exact HR zr_5 d_JStr_charAt1_15 ⟨zr_5, h⟩ hw
end
theorem c_JStr_charAt1 {l : Launch} {D : va_G} {cA : Nat → ClassId} {a : Nat → Nat} {ad : Nat → Nat → Nat} {σ : SS} {post : Int32 → SS → Prop} {j0 : Nat} {x1 : Int32} (h : f_JStr_charAt1 post σ j0 x1) : mI l y_JStr_charAt1 b_JStr_charAt1 2 (some .char) 3 64 D vcl (tyl cA) (wC cA a) (XC ad) σ [.ref (ad 2 j0), .int x1] (fun r σ => narrow .char (.int r) = .int r ∧ post r σ) := met_I (by decide) (Nat.le_of_ble_eq_true rfl) (fun p e s m args below meth c A Q fx HR H ls hw hl => e_JStr_charAt1  fx HR h hw hl)
abbrev r_T_writeLetter : Room := { frames := 4, cells := 0, slots := 0, locals := 85 }
def f_T_writeLetter (post : SS → Prop) (σ : SS) (j1 : Nat) (x2 : Int32) : Prop := br (x2 < 1) (post σ) ((j1 < 50) ∧ f_JStr_length0 (fun r_3 σ_2 => br (r_3 < x2) (post σ_2) (f_JStr_charAt1 (fun r_5 σ_4 => f_T_write (fun σ_6 => post σ_6) σ_4 r_5) σ_2 j1 (x2 - 1))) σ j1)
section
variable {p : Program} {l : Launch} {e : Env} {s : State} {m : MethodId} {args : Array Value} {below : List Frame} {meth : Method} {c : Code} {Q : State → Prop} {D : va_G} {cA : Nat → ClassId} {a : Nat → Nat} {ad : Nat → Nat → Nat} {A : Nat → Prop}
set_option maxHeartbeats 4000000 in
set_option maxRecDepth 100000 in
theorem e_T_writeLetter (fx : CallFix p m c b_T_writeLetter 3 s args GW RNT) {post : SS → Prop} (HR : RetV p l e r_T_writeLetter s m args below meth c Q D vcl (tyl cA) (wC cA a) (XC ad) A b_T_writeLetter post) {σ : SS} {j1 : Nat} {x2 : Int32} {H : Heap} {locs : List Loc} {ls : Array Slot} (h : f_T_writeLetter post σ j1 x2) (hw : CX D vcl (tyl cA) (wC cA a σ) (XC ad) A s H locs) (hl : lv_has ls 3 [(0, .ref (a 23)), (1, .ref (ad 2 j1)), (2, .int x2)]) : W p l e r_T_writeLetter s m args below meth c H locs 0 0 Q (F0 m 0 ls []) := by
  have hx := fx.1
  have hb := fx.2.1
  unfold f_T_writeLetter at h
  refine lv_iload_n (pc := 0) hx hb d_T_writeLetter_0 rfl (lv_at hl 2 rfl) ?_
  refine lv_iconst (pc := 1) (v := 1) hx hb d_T_writeLetter_1 (by decide) ?_
  refine lv_icmp_lt (pc := 2) (tgt := 24) hx hb d_T_writeLetter_2 (by decide) (fun c9 => ?_) (fun c9 => ?_)
  · replace h := h.1 c9
    exact HR d_T_writeLetter_24 h hw
  · replace h := h.2 c9
    refine lv_iload_n (pc := 5) hx hb d_T_writeLetter_5 rfl (lv_at hl 2 rfl) ?_
    refine lv_aload_n (pc := 6) hx hb d_T_writeLetter_6 rfl (lv_at hl 1 rfl) ?_
    have b_1 := h.1
    replace h := h.2
    refine rsI (pc := 7) hw (rnV (pc := 7) xtC fx hw (c_JStr_length0 h _) cw_T_71 (rcK hw b_1) rfl ⟨Nat.le_of_ble_eq_true rfl, Nat.le_of_ble_eq_true rfl⟩ hl.1 (Nat.le_of_ble_eq_true rfl) d_T_writeLetter_7 ⟨Nat.zero_le _, Nat.zero_le _⟩) (fun r_3 σ_2 H locs hw h => ?_)
    refine lv_icmp_gt (pc := 10) (tgt := 24) hx hb d_T_writeLetter_10 (by decide) (fun c9 => ?_) (fun c9 => ?_)
    · replace h := h.1 c9
      exact HR d_T_writeLetter_24 h hw
    · replace h := h.2 c9
      refine lv_aload_n (pc := 13) hx hb d_T_writeLetter_13 rfl (lv_at hl 0 rfl) ?_
      refine lv_aload_n (pc := 14) hx hb d_T_writeLetter_14 rfl (lv_at hl 1 rfl) ?_
      refine lv_iload_n (pc := 15) hx hb d_T_writeLetter_15 rfl (lv_at hl 2 rfl) ?_
      refine lv_iconst (pc := 16) (v := 1) hx hb d_T_writeLetter_16 (by decide) ?_
      refine lv_isub (pc := 17) hx hb d_T_writeLetter_17 ?_
      refine rsI (pc := 18) hw (rnV (pc := 18) xtC fx hw (c_JStr_charAt1 h _) cw_T_76 (rcK hw b_1) rfl ⟨Nat.le_of_ble_eq_true rfl, Nat.le_of_ble_eq_true rfl⟩ hl.1 (Nat.le_of_ble_eq_true rfl) d_T_writeLetter_18 ⟨Nat.zero_le _, Nat.zero_le _⟩) (fun r_5 σ_4 H locs hw h => ?_)
      have zr_5 := h.1
      replace h := h.2
      refine rsV (pc := 21) hw (rnV (pc := 21) xtC fx hw (c_T_write h _) cw_T_36 (rcC_23 hw) rfl ⟨Nat.le_of_ble_eq_true rfl, Nat.le_of_ble_eq_true rfl⟩ hl.1 (Nat.le_of_ble_eq_true rfl) d_T_writeLetter_21 ⟨Nat.zero_le _, Nat.zero_le _⟩) (fun σ_6 H locs hw h => ?_)
      exact HR d_T_writeLetter_24 h hw
end
theorem c_T_writeLetter {l : Launch} {D : va_G} {cA : Nat → ClassId} {a : Nat → Nat} {ad : Nat → Nat → Nat} {σ : SS} {post : SS → Prop} {j1 : Nat} {x2 : Int32} (h : f_T_writeLetter post σ j1 x2) : mV l y_T_writeLetter b_T_writeLetter 3 none 4 85 D vcl (tyl cA) (wC cA a) (XC ad) σ [.ref (a 23), .ref (ad 2 j1), .int x2] post := met_V (by decide) (Nat.le_of_ble_eq_true rfl) (fun p e s m args below meth c A Q fx HR H ls hw hl => e_T_writeLetter  fx HR h hw hl)
abbrev r_T_writeTransfer : Room := { frames := 5, cells := 0, slots := 0, locals := 107 }
def f_T_writeTransfer_38 (post : SS → Prop) (σ : SS) (x1 : Int32) : Prop := f_T_writeNumber (fun σ_1 => post σ_1) σ (x1 &&& 63)
def f_T_writeTransfer (post : SS → Prop) (σ : SS) (x1 : Int32) (x2 : Int32) : Prop := f_T_writeLetter (fun σ_3 => f_T_write (fun σ_5 => br (x2 = 0) (f_T_writeTransfer_38 post σ_5 x1) (f_T_writeNumber (fun σ_7 => f_T_write (fun σ_9 => f_T_writeTransfer_38 post σ_9 x1) σ_7 44) σ_5 ((x1 >>> ((11 : Int32) &&& 31)) &&& 3))) σ_3 32) σ 3 ((x1 >>> ((6 : Int32) &&& 31)) &&& 3)
section
variable {p : Program} {l : Launch} {e : Env} {s : State} {m : MethodId} {args : Array Value} {below : List Frame} {meth : Method} {c : Code} {Q : State → Prop} {D : va_G} {cA : Nat → ClassId} {a : Nat → Nat} {ad : Nat → Nat → Nat} {A : Nat → Prop}
set_option maxHeartbeats 4000000 in
set_option maxRecDepth 100000 in
theorem c_T_writeTransfer_38 (fx : CallFix p m c b_T_writeTransfer 3 s args GW RNT) {post : SS → Prop} (HR : RetV p l e r_T_writeTransfer s m args below meth c Q D vcl (tyl cA) (wC cA a) (XC ad) A b_T_writeTransfer post) {σ : SS} {x1 : Int32} {H : Heap} {locs : List Loc} {ls : Array Slot} (h : f_T_writeTransfer_38 post σ x1) (hw : CX D vcl (tyl cA) (wC cA a σ) (XC ad) A s H locs) (hl : lv_has ls 3 [(0, .ref (a 23)), (1, .int x1)]) : W p l e r_T_writeTransfer s m args below meth c H locs 0 0 Q (F0 m 38 ls []) := by
  have hx := fx.1
  have hb := fx.2.1
  unfold f_T_writeTransfer_38 at h
  refine lv_aload_n (pc := 38) hx hb d_T_writeTransfer_38 rfl (lv_at hl 0 rfl) ?_
  refine lv_iload_n (pc := 39) hx hb d_T_writeTransfer_39 rfl (lv_at hl 1 rfl) ?_
  refine lv_bipush (pc := 40) (v := 63) hx hb d_T_writeTransfer_40 (by decide) ?_
  refine lv_iand (pc := 42) hx hb d_T_writeTransfer_42 ?_
  refine rsV (pc := 43) hw (rnV (pc := 43) xtC fx hw (c_T_writeNumber h _) cw_T_44 (rcC_23 hw) rfl ⟨Nat.le_of_ble_eq_true rfl, Nat.le_of_ble_eq_true rfl⟩ hl.1 (Nat.le_of_ble_eq_true rfl) d_T_writeTransfer_43 ⟨Nat.zero_le _, Nat.zero_le _⟩) (fun σ_1 H locs hw h => ?_)
  exact HR d_T_writeTransfer_46 h hw
set_option maxHeartbeats 4000000 in
set_option maxRecDepth 100000 in
theorem e_T_writeTransfer (fx : CallFix p m c b_T_writeTransfer 3 s args GW RNT) {post : SS → Prop} (HR : RetV p l e r_T_writeTransfer s m args below meth c Q D vcl (tyl cA) (wC cA a) (XC ad) A b_T_writeTransfer post) {σ : SS} {x1 : Int32} {x2 : Int32} {H : Heap} {locs : List Loc} {ls : Array Slot} (h : f_T_writeTransfer post σ x1 x2) (hw : CX D vcl (tyl cA) (wC cA a σ) (XC ad) A s H locs) (hl : lv_has ls 3 [(0, .ref (a 23)), (1, .int x1), (2, .int x2)]) : W p l e r_T_writeTransfer s m args below meth c H locs 0 0 Q (F0 m 0 ls []) := by
  have hx := fx.1
  have hb := fx.2.1
  unfold f_T_writeTransfer at h
  refine lv_aload_n (pc := 0) hx hb d_T_writeTransfer_0 rfl (lv_at hl 0 rfl) ?_
  refine ldK (pc := 1) (tx := "SCP") (j := 3) fx hw (by decide +kernel) d_T_writeTransfer_1 ?_
  refine lv_iload_n (pc := 3) hx hb d_T_writeTransfer_3 rfl (lv_at hl 1 rfl) ?_
  refine lv_bipush (pc := 4) (v := 6) hx hb d_T_writeTransfer_4 (by decide) ?_
  refine lv_ishr (pc := 6) hx hb d_T_writeTransfer_6 ?_
  refine lv_iconst (pc := 7) (v := 3) hx hb d_T_writeTransfer_7 (by decide) ?_
  refine lv_iand (pc := 8) hx hb d_T_writeTransfer_8 ?_
  refine rsV (pc := 9) hw (rnV (pc := 9) xtC fx hw (c_T_writeLetter h _) cw_T_57 (rcC_23 hw) rfl ⟨Nat.le_of_ble_eq_true rfl, Nat.le_of_ble_eq_true rfl⟩ hl.1 (Nat.le_of_ble_eq_true rfl) d_T_writeTransfer_9 ⟨Nat.zero_le _, Nat.zero_le _⟩) (fun σ_3 H locs hw h => ?_)
  refine lv_aload_n (pc := 12) hx hb d_T_writeTransfer_12 rfl (lv_at hl 0 rfl) ?_
  refine lv_bipush (pc := 13) (v := 32) hx hb d_T_writeTransfer_13 (by decide) ?_
  refine rsV (pc := 15) hw (rnV (pc := 15) xtC fx hw (c_T_write h _) cw_T_36 (rcC_23 hw) rfl ⟨Nat.le_of_ble_eq_true rfl, Nat.le_of_ble_eq_true rfl⟩ hl.1 (Nat.le_of_ble_eq_true rfl) d_T_writeTransfer_15 ⟨Nat.zero_le _, Nat.zero_le _⟩) (fun σ_5 H locs hw h => ?_)
  refine lv_iload_n (pc := 18) hx hb d_T_writeTransfer_18 rfl (lv_at hl 2 rfl) ?_
  refine lv_if_eq (pc := 19) (tgt := 38) hx hb d_T_writeTransfer_19 (by decide) (fun c9 => ?_) (fun c9 => ?_)
  · replace h := h.1 c9
    exact c_T_writeTransfer_38  fx HR h hw (lv_sub hl [0, 1] rfl)
  · replace h := h.2 c9
    refine lv_aload_n (pc := 22) hx hb d_T_writeTransfer_22 rfl (lv_at hl 0 rfl) ?_
    refine lv_iload_n (pc := 23) hx hb d_T_writeTransfer_23 rfl (lv_at hl 1 rfl) ?_
    refine lv_bipush (pc := 24) (v := 11) hx hb d_T_writeTransfer_24 (by decide) ?_
    refine lv_ishr (pc := 26) hx hb d_T_writeTransfer_26 ?_
    refine lv_iconst (pc := 27) (v := 3) hx hb d_T_writeTransfer_27 (by decide) ?_
    refine lv_iand (pc := 28) hx hb d_T_writeTransfer_28 ?_
    refine rsV (pc := 29) hw (rnV (pc := 29) xtC fx hw (c_T_writeNumber h _) cw_T_44 (rcC_23 hw) rfl ⟨Nat.le_of_ble_eq_true rfl, Nat.le_of_ble_eq_true rfl⟩ hl.1 (Nat.le_of_ble_eq_true rfl) d_T_writeTransfer_29 ⟨Nat.zero_le _, Nat.zero_le _⟩) (fun σ_7 H locs hw h => ?_)
    refine lv_aload_n (pc := 32) hx hb d_T_writeTransfer_32 rfl (lv_at hl 0 rfl) ?_
    refine lv_bipush (pc := 33) (v := 44) hx hb d_T_writeTransfer_33 (by decide) ?_
    refine rsV (pc := 35) hw (rnV (pc := 35) xtC fx hw (c_T_write h _) cw_T_36 (rcC_23 hw) rfl ⟨Nat.le_of_ble_eq_true rfl, Nat.le_of_ble_eq_true rfl⟩ hl.1 (Nat.le_of_ble_eq_true rfl) d_T_writeTransfer_35 ⟨Nat.zero_le _, Nat.zero_le _⟩) (fun σ_9 H locs hw h => ?_)
    exact c_T_writeTransfer_38  fx HR h hw (lv_sub hl [0, 1] rfl)
end
theorem c_T_writeTransfer {l : Launch} {D : va_G} {cA : Nat → ClassId} {a : Nat → Nat} {ad : Nat → Nat → Nat} {σ : SS} {post : SS → Prop} {x1 : Int32} {x2 : Int32} (h : f_T_writeTransfer post σ x1 x2) : mV l y_T_writeTransfer b_T_writeTransfer 3 none 5 107 D vcl (tyl cA) (wC cA a) (XC ad) σ [.ref (a 23), .int x1, .int x2] post := met_V (by decide) (Nat.le_of_ble_eq_true rfl) (fun p e s m args below meth c A Q fx HR H ls hw hl => e_T_writeTransfer  fx HR h hw hl)
abbrev r_S_making : Room := { frames := 0, cells := 0, slots := 0, locals := 0 }
def f_S_making_2 (post : Nat → SS → Prop) : Nat → SS → Int32 → Int32 → Prop
  | 0, _, _, _ => False
  | n + 1, σ, x0, x1 => br (35 ≤ x1) (post 34 σ) (vp_in x1 35 ∧ vp_in x1 35 ∧ br ((x0 &&& (eS_fixed (x1.toNatClampNeg))) = (eS_bits (x1.toNatClampNeg))) (vp_in x1 35 ∧ post (x1.toNatClampNeg) σ) (nm (x1 + 1) fun x1_3 => f_S_making_2 post n σ x0 x1_3))
def f_S_making (post : Nat → SS → Prop) (σ : SS) (x0 : Int32) : Prop := ∃ n9, f_S_making_2 post n9 σ x0 0
section
variable {p : Program} {l : Launch} {e : Env} {s : State} {m : MethodId} {args : Array Value} {below : List Frame} {meth : Method} {c : Code} {Q : State → Prop} {D : va_G} {cA : Nat → ClassId} {a : Nat → Nat} {ad : Nat → Nat → Nat} {A : Nat → Prop}
set_option maxHeartbeats 4000000 in
set_option maxRecDepth 100000 in
theorem c_S_making_2 (fx : CallFix p m c b_S_making 2 s args GW "NovaDesk$Statement") {post : Nat → SS → Prop} (HR : RetN p l e r_S_making s m args below meth c Q D vcl (tyl cA) (wC cA a) (XC ad) A b_S_making (fun i => .ref (ad 0 i)) post) : ∀ (n : Nat) {σ : SS} {x0 : Int32} {x1 : Int32} {H : Heap} {locs : List Loc} {ls : Array Slot}, f_S_making_2 post n σ x0 x1 → CX D vcl (tyl cA) (wC cA a σ) (XC ad) A s H locs → lv_has ls 2 [(0, .int x0), (1, .int x1)] → W p l e r_S_making s m args below meth c H locs 0 0 Q (F0 m 2 ls []) := by
  have hx := fx.1
  have hb := fx.2.1
  intro n
  induction n with
  | zero => intro σ x0 x1 H locs ls h; exact h.elim
  | succ n ih =>
    intro σ x0 x1 H locs ls h hw hl
    have K2 := @ih
    unfold f_S_making_2 at h
    refine lv_iload_n (pc := 2) hx hb d_S_making_2 rfl (lv_at hl 1 rfl) ?_
    refine gzS_ALL (pc := 3) fx hw kw_531 d_S_making_3 ?_
    refine anS (pc := 6) fx hw d_S_making_6 ?_
    refine lv_icmp_ge (pc := 7) (tgt := 43) hx hb d_S_making_7 (by decide) (fun c9 => ?_) (fun c9 => ?_)
    · replace h := h.1 c9
      refine gzS_WORD (pc := 43) fx hw kw_541 d_S_making_43 ?_
      exact HR (r := 34) d_S_making_46 h hw
    · replace h := h.2 c9
      refine lv_iload_n (pc := 10) hx hb d_S_making_10 rfl (lv_at hl 0 rfl) ?_
      refine gzS_ALL (pc := 11) fx hw kw_531 d_S_making_11 ?_
      refine lv_iload_n (pc := 14) hx hb d_S_making_14 rfl (lv_at hl 1 rfl) ?_
      have b9 := h.1
      refine aaS (pc := 15) fx hw b9 d_S_making_15 ?_
      replace h := h.2
      have b_1 := Nat.not_le.mp fun q => b9 (Or.inr q)
      refine geS_fixed (pc := 16) fx hw b_1 kw_1558 d_S_making_16 ?_
      refine lv_iand (pc := 19) hx hb d_S_making_19 ?_
      refine gzS_ALL (pc := 20) fx hw kw_531 d_S_making_20 ?_
      refine lv_iload_n (pc := 23) hx hb d_S_making_23 rfl (lv_at hl 1 rfl) ?_
      have b9 := h.1
      refine aaS (pc := 24) fx hw b9 d_S_making_24 ?_
      replace h := h.2
      have b_2 := Nat.not_le.mp fun q => b9 (Or.inr q)
      refine geS_bits (pc := 25) fx hw b_2 kw_1559 d_S_making_25 ?_
      refine lv_icmp_ne (pc := 28) (tgt := 37) hx hb d_S_making_28 (by decide) (fun c9 => ?_) (fun c9 => ?_)
      · replace h := h.2 c9
        obtain ⟨x1_3, e9⟩ : ∃ z : Int32, z = x1 + 1 := ⟨_, rfl⟩
        replace h := nm_u h e9
        refine lv_iinc (pc := 37) (v := x1_3) (lv' := [(1, .int x1_3), (0, .int x0)]) hx hb d_S_making_37 hl (k := 1) rfl (by rw [e9]; rfl) (by decide) rfl (fun ls hl => ?_)
        clear e9
        refine lv_goto (pc := 40) (tgt := 2) hx hb d_S_making_40 (by decide) ?_
        exact K2 h hw (lv_sub hl [1, 0] rfl)
      · replace h := h.1 c9
        refine gzS_ALL (pc := 31) fx hw kw_531 d_S_making_31 ?_
        refine lv_iload_n (pc := 34) hx hb d_S_making_34 rfl (lv_at hl 1 rfl) ?_
        have b9 := h.1
        refine aaS (pc := 35) fx hw b9 d_S_making_35 ?_
        replace h := h.2
        have b_4 := Nat.not_le.mp fun q => b9 (Or.inr q)
        exact HR (r := (x1.toNatClampNeg)) d_S_making_36 h hw
set_option maxHeartbeats 4000000 in
set_option maxRecDepth 100000 in
theorem e_S_making (fx : CallFix p m c b_S_making 2 s args GW "NovaDesk$Statement") {post : Nat → SS → Prop} (HR : RetN p l e r_S_making s m args below meth c Q D vcl (tyl cA) (wC cA a) (XC ad) A b_S_making (fun i => .ref (ad 0 i)) post) {σ : SS} {x0 : Int32} {H : Heap} {locs : List Loc} {ls : Array Slot} (h : f_S_making post σ x0) (hw : CX D vcl (tyl cA) (wC cA a σ) (XC ad) A s H locs) (hl : lv_has ls 2 [(0, .int x0)]) : W p l e r_S_making s m args below meth c H locs 0 0 Q (F0 m 0 ls []) := by
  have hx := fx.1
  have hb := fx.2.1
  unfold f_S_making at h
  refine lv_iconst (pc := 0) (v := 0) hx hb d_S_making_0 (by decide) ?_
  refine lv_istore_n (pc := 1) (lv' := [(1, .int 0), (0, .int x0)]) hx hb d_S_making_1 rfl hl (by decide) rfl (fun ls hl => ?_)
  obtain ⟨n9, h⟩ := h
  exact c_S_making_2  fx HR n9 h hw (lv_sub hl [1, 0] rfl)
end
theorem c_S_making {l : Launch} {D : va_G} {cA : Nat → ClassId} {a : Nat → Nat} {ad : Nat → Nat → Nat} {σ : SS} {post : Nat → SS → Prop} {x0 : Int32} (h : f_S_making post σ x0) : mN (fun i => .ref (ad 0 i)) l y_S_making b_S_making 2 (some (.object "NovaDesk$Statement")) 0 0 D vcl (tyl cA) (wC cA a) (XC ad) σ [.int x0] post := met_N (fun r => Or.inr ⟨_, rfl⟩) (by decide) (Nat.le_of_ble_eq_true rfl) (fun p e s m args below meth c A Q fx HR H ls hw hl => e_S_making  fx HR h hw hl)
abbrev r_T_writeText : Room := { frames := 4, cells := 0, slots := 0, locals := 85 }
def f_T_writeText_2 (post : SS → Prop) : Nat → SS → Nat → Int32 → Prop
  | 0, _, _, _ => False
  | n + 1, σ, x1, x2 => (x1 < 50) ∧ f_JStr_length0 (fun r_3 σ_2 => br (r_3 ≤ x2) (post σ_2) (f_JStr_charAt1 (fun r_5 σ_4 => f_T_write (fun σ_6 => nm (x2 + 1) fun x2_8 => f_T_writeText_2 post n σ_6 x1 x2_8) σ_4 r_5) σ_2 x1 x2)) σ x1
def f_T_writeText (post : SS → Prop) (σ : SS) (j1 : Nat) : Prop := ∃ n9, f_T_writeText_2 post n9 σ j1 0
section
variable {p : Program} {l : Launch} {e : Env} {s : State} {m : MethodId} {args : Array Value} {below : List Frame} {meth : Method} {c : Code} {Q : State → Prop} {D : va_G} {cA : Nat → ClassId} {a : Nat → Nat} {ad : Nat → Nat → Nat} {A : Nat → Prop}
set_option maxHeartbeats 4000000 in
set_option maxRecDepth 100000 in
theorem c_T_writeText_2 (fx : CallFix p m c b_T_writeText 3 s args GW RNT) {post : SS → Prop} (HR : RetV p l e r_T_writeText s m args below meth c Q D vcl (tyl cA) (wC cA a) (XC ad) A b_T_writeText post) : ∀ (n : Nat) {σ : SS} {x1 : Nat} {x2 : Int32} {H : Heap} {locs : List Loc} {ls : Array Slot}, f_T_writeText_2 post n σ x1 x2 → CX D vcl (tyl cA) (wC cA a σ) (XC ad) A s H locs → lv_has ls 3 [(0, .ref (a 23)), (1, .ref (ad 2 x1)), (2, .int x2)] → W p l e r_T_writeText s m args below meth c H locs 0 0 Q (F0 m 2 ls []) := by
  have hx := fx.1
  have hb := fx.2.1
  intro n
  induction n with
  | zero => intro σ x1 x2 H locs ls h; exact h.elim
  | succ n ih =>
    intro σ x1 x2 H locs ls h hw hl
    have K2 := @ih
    unfold f_T_writeText_2 at h
    refine lv_iload_n (pc := 2) hx hb d_T_writeText_2 rfl (lv_at hl 2 rfl) ?_
    refine lv_aload_n (pc := 3) hx hb d_T_writeText_3 rfl (lv_at hl 1 rfl) ?_
    have b_1 := h.1
    replace h := h.2
    refine rsI (pc := 4) hw (rnV (pc := 4) xtC fx hw (c_JStr_length0 h _) cw_T_71 (rcK hw b_1) rfl ⟨Nat.le_of_ble_eq_true rfl, Nat.le_of_ble_eq_true rfl⟩ hl.1 (Nat.le_of_ble_eq_true rfl) d_T_writeText_4 ⟨Nat.zero_le _, Nat.zero_le _⟩) (fun r_3 σ_2 H locs hw h => ?_)
    refine lv_icmp_ge (pc := 7) (tgt := 25) hx hb d_T_writeText_7 (by decide) (fun c9 => ?_) (fun c9 => ?_)
    · replace h := h.1 c9
      exact HR d_T_writeText_25 h hw
    · replace h := h.2 c9
      refine lv_aload_n (pc := 10) hx hb d_T_writeText_10 rfl (lv_at hl 0 rfl) ?_
      refine lv_aload_n (pc := 11) hx hb d_T_writeText_11 rfl (lv_at hl 1 rfl) ?_
      refine lv_iload_n (pc := 12) hx hb d_T_writeText_12 rfl (lv_at hl 2 rfl) ?_
      refine rsI (pc := 13) hw (rnV (pc := 13) xtC fx hw (c_JStr_charAt1 h _) cw_T_76 (rcK hw b_1) rfl ⟨Nat.le_of_ble_eq_true rfl, Nat.le_of_ble_eq_true rfl⟩ hl.1 (Nat.le_of_ble_eq_true rfl) d_T_writeText_13 ⟨Nat.zero_le _, Nat.zero_le _⟩) (fun r_5 σ_4 H locs hw h => ?_)
      have zr_5 := h.1
      replace h := h.2
      refine rsV (pc := 16) hw (rnV (pc := 16) xtC fx hw (c_T_write h _) cw_T_36 (rcC_23 hw) rfl ⟨Nat.le_of_ble_eq_true rfl, Nat.le_of_ble_eq_true rfl⟩ hl.1 (Nat.le_of_ble_eq_true rfl) d_T_writeText_16 ⟨Nat.zero_le _, Nat.zero_le _⟩) (fun σ_6 H locs hw h => ?_)
      obtain ⟨x2_8, e9⟩ : ∃ z : Int32, z = x2 + 1 := ⟨_, rfl⟩
      replace h := nm_u h e9
      refine lv_iinc (pc := 19) (v := x2_8) (lv' := [(2, .int x2_8), (0, .ref (a 23)), (1, .ref (ad 2 x1))]) hx hb d_T_writeText_19 hl (k := 2) rfl (by rw [e9]; rfl) (by decide) rfl (fun ls hl => ?_)
      clear e9
      refine lv_goto (pc := 22) (tgt := 2) hx hb d_T_writeText_22 (by decide) ?_
      exact K2 h hw (lv_sub hl [1, 2, 0] rfl)
set_option maxHeartbeats 4000000 in
set_option maxRecDepth 100000 in
theorem e_T_writeText (fx : CallFix p m c b_T_writeText 3 s args GW RNT) {post : SS → Prop} (HR : RetV p l e r_T_writeText s m args below meth c Q D vcl (tyl cA) (wC cA a) (XC ad) A b_T_writeText post) {σ : SS} {j1 : Nat} {H : Heap} {locs : List Loc} {ls : Array Slot} (h : f_T_writeText post σ j1) (hw : CX D vcl (tyl cA) (wC cA a σ) (XC ad) A s H locs) (hl : lv_has ls 3 [(0, .ref (a 23)), (1, .ref (ad 2 j1))]) : W p l e r_T_writeText s m args below meth c H locs 0 0 Q (F0 m 0 ls []) := by
  have hx := fx.1
  have hb := fx.2.1
  unfold f_T_writeText at h
  refine lv_iconst (pc := 0) (v := 0) hx hb d_T_writeText_0 (by decide) ?_
  refine lv_istore_n (pc := 1) (lv' := [(2, .int 0), (0, .ref (a 23)), (1, .ref (ad 2 j1))]) hx hb d_T_writeText_1 rfl hl (by decide) rfl (fun ls hl => ?_)
  obtain ⟨n9, h⟩ := h
  exact c_T_writeText_2  fx HR n9 h hw (lv_sub hl [1, 2, 0] rfl)
end
theorem c_T_writeText {l : Launch} {D : va_G} {cA : Nat → ClassId} {a : Nat → Nat} {ad : Nat → Nat → Nat} {σ : SS} {post : SS → Prop} {j1 : Nat} (h : f_T_writeText post σ j1) : mV l y_T_writeText b_T_writeText 3 none 4 85 D vcl (tyl cA) (wC cA a) (XC ad) σ [.ref (a 23), .ref (ad 2 j1)] post := met_V (by decide) (Nat.le_of_ble_eq_true rfl) (fun p e s m args below meth c A Q fx HR H ls hw hl => e_T_writeText  fx HR h hw hl)
abbrev r_T_writeAddress : Room := { frames := 2, cells := 0, slots := 0, locals := 43 }
def f_T_writeAddress_57 (post : SS → Prop) (σ : SS) (x2 : Int32) (s0 : Int32) : Prop := f_T_writeNumber (fun σ_1 => f_T_write (fun σ_3 => f_T_writeNumber (fun σ_5 => post σ_5) σ_3 x2) σ_1 44) σ s0
def f_T_writeAddress_27 (post : SS → Prop) (σ : SS) (x2 : Int32) (x3 : Int32) : Prop := br (x2 = 0) (f_T_writeNumber (fun σ_7 => post σ_7) σ x3) (br (128 ≤ x3) (f_T_writeAddress_57 post σ x2 ((x3 - 256) &&& 65535)) (f_T_writeAddress_57 post σ x2 x3))
def f_T_writeAddress (post : SS → Prop) (σ : SS) (x1 : Int32) : Prop := nm ((x1 >>> ((8 : Int32) &&& 31)) &&& 3) fun x2_9 => nm (x1 &&& 255) fun x3_10 => br ((x1 &&& 1024) = 0) (f_T_writeAddress_27 post σ x2_9 x3_10) (f_T_write (fun σ_11 => f_T_writeAddress_27 post σ_11 x2_9 x3_10) σ 64)
section
variable {p : Program} {l : Launch} {e : Env} {s : State} {m : MethodId} {args : Array Value} {below : List Frame} {meth : Method} {c : Code} {Q : State → Prop} {D : va_G} {cA : Nat → ClassId} {a : Nat → Nat} {ad : Nat → Nat → Nat} {A : Nat → Prop}
set_option maxHeartbeats 4000000 in
set_option maxRecDepth 100000 in
theorem c_T_writeAddress_57 (fx : CallFix p m c b_T_writeAddress 4 s args GW RNT) {post : SS → Prop} (HR : RetV p l e r_T_writeAddress s m args below meth c Q D vcl (tyl cA) (wC cA a) (XC ad) A b_T_writeAddress post) {σ : SS} {x2 : Int32} {s0 : Int32} {H : Heap} {locs : List Loc} {ls : Array Slot} (h : f_T_writeAddress_57 post σ x2 s0) (hw : CX D vcl (tyl cA) (wC cA a σ) (XC ad) A s H locs) (hl : lv_has ls 4 [(0, .ref (a 23)), (2, .int x2)]) : W p l e r_T_writeAddress s m args below meth c H locs 0 0 Q (F0 m 57 ls [.int s0, .ref (a 23)]) := by
  have hx := fx.1
  have hb := fx.2.1
  unfold f_T_writeAddress_57 at h
  refine rsV (pc := 57) hw (rnV (pc := 57) xtC fx hw (c_T_writeNumber h _) cw_T_44 (rcC_23 hw) rfl ⟨Nat.le_of_ble_eq_true rfl, Nat.le_of_ble_eq_true rfl⟩ hl.1 (Nat.le_of_ble_eq_true rfl) d_T_writeAddress_57 ⟨Nat.zero_le _, Nat.zero_le _⟩) (fun σ_1 H locs hw h => ?_)
  refine lv_aload_n (pc := 60) hx hb d_T_writeAddress_60 rfl (lv_at hl 0 rfl) ?_
  refine lv_bipush (pc := 61) (v := 44) hx hb d_T_writeAddress_61 (by decide) ?_
  refine rsV (pc := 63) hw (rnV (pc := 63) xtC fx hw (c_T_write h _) cw_T_36 (rcC_23 hw) rfl ⟨Nat.le_of_ble_eq_true rfl, Nat.le_of_ble_eq_true rfl⟩ hl.1 (Nat.le_of_ble_eq_true rfl) d_T_writeAddress_63 ⟨Nat.zero_le _, Nat.zero_le _⟩) (fun σ_3 H locs hw h => ?_)
  refine lv_aload_n (pc := 66) hx hb d_T_writeAddress_66 rfl (lv_at hl 0 rfl) ?_
  refine lv_iload_n (pc := 67) hx hb d_T_writeAddress_67 rfl (lv_at hl 1 rfl) ?_
  refine rsV (pc := 68) hw (rnV (pc := 68) xtC fx hw (c_T_writeNumber h _) cw_T_44 (rcC_23 hw) rfl ⟨Nat.le_of_ble_eq_true rfl, Nat.le_of_ble_eq_true rfl⟩ hl.1 (Nat.le_of_ble_eq_true rfl) d_T_writeAddress_68 ⟨Nat.zero_le _, Nat.zero_le _⟩) (fun σ_5 H locs hw h => ?_)
  exact HR d_T_writeAddress_71 h hw
set_option maxHeartbeats 4000000 in
set_option maxRecDepth 100000 in
theorem c_T_writeAddress_27 (fx : CallFix p m c b_T_writeAddress 4 s args GW RNT) {post : SS → Prop} (HR : RetV p l e r_T_writeAddress s m args below meth c Q D vcl (tyl cA) (wC cA a) (XC ad) A b_T_writeAddress post) {σ : SS} {x2 : Int32} {x3 : Int32} {H : Heap} {locs : List Loc} {ls : Array Slot} (h : f_T_writeAddress_27 post σ x2 x3) (hw : CX D vcl (tyl cA) (wC cA a σ) (XC ad) A s H locs) (hl : lv_has ls 4 [(0, .ref (a 23)), (2, .int x2), (3, .int x3)]) : W p l e r_T_writeAddress s m args below meth c H locs 0 0 Q (F0 m 27 ls []) := by
  have hx := fx.1
  have hb := fx.2.1
  unfold f_T_writeAddress_27 at h
  refine lv_iload_n (pc := 27) hx hb d_T_writeAddress_27 rfl (lv_at hl 1 rfl) ?_
  refine lv_if_ne (pc := 28) (tgt := 37) hx hb d_T_writeAddress_28 (by decide) (fun c9 => ?_) (fun c9 => ?_)
  · replace h := h.2 c9
    refine lv_aload_n (pc := 37) hx hb d_T_writeAddress_37 rfl (lv_at hl 0 rfl) ?_
    refine lv_iload_n (pc := 38) hx hb d_T_writeAddress_38 rfl (lv_at hl 2 rfl) ?_
    refine lv_sipush (pc := 39) (v := 128) hx hb d_T_writeAddress_39 (by decide) ?_
    refine lv_icmp_ge (pc := 42) (tgt := 49) hx hb d_T_writeAddress_42 (by decide) (fun c9 => ?_) (fun c9 => ?_)
    · replace h := h.1 c9
      refine lv_iload_n (pc := 49) hx hb d_T_writeAddress_49 rfl (lv_at hl 2 rfl) ?_
      refine lv_sipush (pc := 50) (v := 256) hx hb d_T_writeAddress_50 (by decide) ?_
      refine lv_isub (pc := 53) hx hb d_T_writeAddress_53 ?_
      refine lv_ldc (pc := 54) (v := 65535) hx hb fx.2.2.2.1 (fx.2.2.2.2 _ kw_1040) d_T_writeAddress_54 ?_
      refine lv_iand (pc := 56) hx hb d_T_writeAddress_56 ?_
      exact c_T_writeAddress_57  fx HR h hw (lv_sub hl [0, 1] rfl)
    · replace h := h.2 c9
      refine lv_iload_n (pc := 45) hx hb d_T_writeAddress_45 rfl (lv_at hl 2 rfl) ?_
      refine lv_goto (pc := 46) (tgt := 57) hx hb d_T_writeAddress_46 (by decide) ?_
      exact c_T_writeAddress_57  fx HR h hw (lv_sub hl [0, 1] rfl)
  · replace h := h.1 c9
    refine lv_aload_n (pc := 31) hx hb d_T_writeAddress_31 rfl (lv_at hl 0 rfl) ?_
    refine lv_iload_n (pc := 32) hx hb d_T_writeAddress_32 rfl (lv_at hl 2 rfl) ?_
    refine rsV (pc := 33) hw (rnV (pc := 33) xtC fx hw (c_T_writeNumber h _) cw_T_44 (rcC_23 hw) rfl ⟨Nat.le_of_ble_eq_true rfl, Nat.le_of_ble_eq_true rfl⟩ hl.1 (Nat.le_of_ble_eq_true rfl) d_T_writeAddress_33 ⟨Nat.zero_le _, Nat.zero_le _⟩) (fun σ_7 H locs hw h => ?_)
    exact HR d_T_writeAddress_36 h hw
set_option maxHeartbeats 4000000 in
set_option maxRecDepth 100000 in
theorem e_T_writeAddress (fx : CallFix p m c b_T_writeAddress 4 s args GW RNT) {post : SS → Prop} (HR : RetV p l e r_T_writeAddress s m args below meth c Q D vcl (tyl cA) (wC cA a) (XC ad) A b_T_writeAddress post) {σ : SS} {x1 : Int32} {H : Heap} {locs : List Loc} {ls : Array Slot} (h : f_T_writeAddress post σ x1) (hw : CX D vcl (tyl cA) (wC cA a σ) (XC ad) A s H locs) (hl : lv_has ls 4 [(0, .ref (a 23)), (1, .int x1)]) : W p l e r_T_writeAddress s m args below meth c H locs 0 0 Q (F0 m 0 ls []) := by
  have hx := fx.1
  have hb := fx.2.1
  unfold f_T_writeAddress at h
  refine lv_iload_n (pc := 0) hx hb d_T_writeAddress_0 rfl (lv_at hl 1 rfl) ?_
  refine lv_bipush (pc := 1) (v := 8) hx hb d_T_writeAddress_1 (by decide) ?_
  refine lv_ishr (pc := 3) hx hb d_T_writeAddress_3 ?_
  refine lv_iconst (pc := 4) (v := 3) hx hb d_T_writeAddress_4 (by decide) ?_
  refine lv_iand (pc := 5) hx hb d_T_writeAddress_5 ?_
  refine lv_topi (fun x2_9 e9 => ?_)
  replace h := nm_u h e9
  clear e9
  refine lv_istore_n (pc := 6) (lv' := [(2, .int x2_9), (0, .ref (a 23)), (1, .int x1)]) hx hb d_T_writeAddress_6 rfl hl (by decide) rfl (fun ls hl => ?_)
  refine lv_iload_n (pc := 7) hx hb d_T_writeAddress_7 rfl (lv_at hl 2 rfl) ?_
  refine lv_sipush (pc := 8) (v := 255) hx hb d_T_writeAddress_8 (by decide) ?_
  refine lv_iand (pc := 11) hx hb d_T_writeAddress_11 ?_
  refine lv_topi (fun x3_10 e9 => ?_)
  replace h := nm_u h e9
  clear e9
  refine lv_istore_n (pc := 12) (lv' := [(3, .int x3_10), (2, .int x2_9), (0, .ref (a 23)), (1, .int x1)]) hx hb d_T_writeAddress_12 rfl hl (by decide) rfl (fun ls hl => ?_)
  refine lv_iload_n (pc := 13) hx hb d_T_writeAddress_13 rfl (lv_at hl 3 rfl) ?_
  refine lv_sipush (pc := 14) (v := 1024) hx hb d_T_writeAddress_14 (by decide) ?_
  refine lv_iand (pc := 17) hx hb d_T_writeAddress_17 ?_
  refine lv_if_eq (pc := 18) (tgt := 27) hx hb d_T_writeAddress_18 (by decide) (fun c9 => ?_) (fun c9 => ?_)
  · replace h := h.1 c9
    exact c_T_writeAddress_27  fx HR h hw (lv_sub hl [2, 1, 0] rfl)
  · replace h := h.2 c9
    refine lv_aload_n (pc := 21) hx hb d_T_writeAddress_21 rfl (lv_at hl 2 rfl) ?_
    refine lv_bipush (pc := 22) (v := 64) hx hb d_T_writeAddress_22 (by decide) ?_
    refine rsV (pc := 24) hw (rnV (pc := 24) xtC fx hw (c_T_write h _) cw_T_36 (rcC_23 hw) rfl ⟨Nat.le_of_ble_eq_true rfl, Nat.le_of_ble_eq_true rfl⟩ hl.1 (Nat.le_of_ble_eq_true rfl) d_T_writeAddress_24 ⟨Nat.zero_le _, Nat.zero_le _⟩) (fun σ_11 H locs hw h => ?_)
    exact c_T_writeAddress_27  fx HR h hw (lv_sub hl [2, 1, 0] rfl)
end
theorem c_T_writeAddress {l : Launch} {D : va_G} {cA : Nat → ClassId} {a : Nat → Nat} {ad : Nat → Nat → Nat} {σ : SS} {post : SS → Prop} {x1 : Int32} (h : f_T_writeAddress post σ x1) : mV l y_T_writeAddress b_T_writeAddress 4 none 2 43 D vcl (tyl cA) (wC cA a) (XC ad) σ [.ref (a 23), .int x1] post := met_V (by decide) (Nat.le_of_ble_eq_true rfl) (fun p e s m args below meth c A Q fx HR H ls hw hl => e_T_writeAddress  fx HR h hw hl)
abbrev r_G_skipName : Room := { frames := 0, cells := 0, slots := 0, locals := 0 }
def f_G_skipName_2 (post : Nat → SS → Prop) : Nat → SS → Int32 → Int32 → Prop
  | 0, _, _, _ => False
  | n + 1, σ, x0, x1 => br (11 ≤ x1) (post 4 σ) (vp_in x1 11 ∧ br ((eG_number (x1.toNatClampNeg)) = x0) (vp_in x1 11 ∧ post (eG_letters (x1.toNatClampNeg)) σ) (nm (x1 + 1) fun x1_2 => f_G_skipName_2 post n σ x0 x1_2))
def f_G_skipName (post : Nat → SS → Prop) (σ : SS) (x0 : Int32) : Prop := ∃ n9, f_G_skipName_2 post n9 σ x0 0
section
variable {p : Program} {l : Launch} {e : Env} {s : State} {m : MethodId} {args : Array Value} {below : List Frame} {meth : Method} {c : Code} {Q : State → Prop} {D : va_G} {cA : Nat → ClassId} {a : Nat → Nat} {ad : Nat → Nat → Nat} {A : Nat → Prop}
set_option maxHeartbeats 4000000 in
set_option maxRecDepth 100000 in
theorem c_G_skipName_2 (fx : CallFix p m c b_G_skipName 2 s args GW "NovaDesk$Given") {post : Nat → SS → Prop} (HR : RetN p l e r_G_skipName s m args below meth c Q D vcl (tyl cA) (wC cA a) (XC ad) A b_G_skipName (fun i => .ref (ad 2 i)) post) : ∀ (n : Nat) {σ : SS} {x0 : Int32} {x1 : Int32} {H : Heap} {locs : List Loc} {ls : Array Slot}, f_G_skipName_2 post n σ x0 x1 → CX D vcl (tyl cA) (wC cA a σ) (XC ad) A s H locs → lv_has ls 2 [(0, .int x0), (1, .int x1)] → W p l e r_G_skipName s m args below meth c H locs 0 0 Q (F0 m 2 ls []) := by
  have hx := fx.1
  have hb := fx.2.1
  intro n
  induction n with
  | zero => intro σ x0 x1 H locs ls h; exact h.elim
  | succ n ih =>
    intro σ x0 x1 H locs ls h hw hl
    have K2 := @ih
    unfold f_G_skipName_2 at h
    refine lv_iload_n (pc := 2) hx hb d_G_skipName_2 rfl (lv_at hl 1 rfl) ?_
    refine gzG_ALL (pc := 3) fx hw kw_526 d_G_skipName_3 ?_
    refine anG (pc := 6) fx hw d_G_skipName_6 ?_
    refine lv_icmp_ge (pc := 7) (tgt := 37) hx hb d_G_skipName_7 (by decide) (fun c9 => ?_) (fun c9 => ?_)
    · replace h := h.1 c9
      refine ldK (pc := 37) (tx := "") (j := 4) fx hw (by decide +kernel) d_G_skipName_37 ?_
      exact HR (r := 4) d_G_skipName_39 h hw
    · replace h := h.2 c9
      refine gzG_ALL (pc := 10) fx hw kw_526 d_G_skipName_10 ?_
      refine lv_iload_n (pc := 13) hx hb d_G_skipName_13 rfl (lv_at hl 1 rfl) ?_
      have b9 := h.1
      refine aaG (pc := 14) fx hw b9 d_G_skipName_14 ?_
      replace h := h.2
      have b_1 := Nat.not_le.mp fun q => b9 (Or.inr q)
      refine geG_number (pc := 15) fx hw b_1 kw_1553 d_G_skipName_15 ?_
      refine lv_iload_n (pc := 18) hx hb d_G_skipName_18 rfl (lv_at hl 0 rfl) ?_
      refine lv_icmp_ne (pc := 19) (tgt := 31) hx hb d_G_skipName_19 (by decide) (fun c9 => ?_) (fun c9 => ?_)
      · replace h := h.2 c9
        obtain ⟨x1_2, e9⟩ : ∃ z : Int32, z = x1 + 1 := ⟨_, rfl⟩
        replace h := nm_u h e9
        refine lv_iinc (pc := 31) (v := x1_2) (lv' := [(1, .int x1_2), (0, .int x0)]) hx hb d_G_skipName_31 hl (k := 1) rfl (by rw [e9]; rfl) (by decide) rfl (fun ls hl => ?_)
        clear e9
        refine lv_goto (pc := 34) (tgt := 2) hx hb d_G_skipName_34 (by decide) ?_
        exact K2 h hw (lv_sub hl [1, 0] rfl)
      · replace h := h.1 c9
        refine gzG_ALL (pc := 22) fx hw kw_526 d_G_skipName_22 ?_
        refine lv_iload_n (pc := 25) hx hb d_G_skipName_25 rfl (lv_at hl 1 rfl) ?_
        have b9 := h.1
        refine aaG (pc := 26) fx hw b9 d_G_skipName_26 ?_
        replace h := h.2
        have b_3 := Nat.not_le.mp fun q => b9 (Or.inr q)
        refine geG_letters (pc := 27) fx hw b_3 kw_1562 d_G_skipName_27 ?_
        exact HR (r := (eG_letters (x1.toNatClampNeg))) d_G_skipName_30 h hw
set_option maxHeartbeats 4000000 in
set_option maxRecDepth 100000 in
theorem e_G_skipName (fx : CallFix p m c b_G_skipName 2 s args GW "NovaDesk$Given") {post : Nat → SS → Prop} (HR : RetN p l e r_G_skipName s m args below meth c Q D vcl (tyl cA) (wC cA a) (XC ad) A b_G_skipName (fun i => .ref (ad 2 i)) post) {σ : SS} {x0 : Int32} {H : Heap} {locs : List Loc} {ls : Array Slot} (h : f_G_skipName post σ x0) (hw : CX D vcl (tyl cA) (wC cA a σ) (XC ad) A s H locs) (hl : lv_has ls 2 [(0, .int x0)]) : W p l e r_G_skipName s m args below meth c H locs 0 0 Q (F0 m 0 ls []) := by
  have hx := fx.1
  have hb := fx.2.1
  unfold f_G_skipName at h
  refine lv_iconst (pc := 0) (v := 0) hx hb d_G_skipName_0 (by decide) ?_
  refine lv_istore_n (pc := 1) (lv' := [(1, .int 0), (0, .int x0)]) hx hb d_G_skipName_1 rfl hl (by decide) rfl (fun ls hl => ?_)
  obtain ⟨n9, h⟩ := h
  exact c_G_skipName_2  fx HR n9 h hw (lv_sub hl [1, 0] rfl)
end
theorem c_G_skipName {l : Launch} {D : va_G} {cA : Nat → ClassId} {a : Nat → Nat} {ad : Nat → Nat → Nat} {σ : SS} {post : Nat → SS → Prop} {x0 : Int32} (h : f_G_skipName post σ x0) : mN (fun i => .ref (ad 2 i)) l y_G_skipName b_G_skipName 2 (some (.object "java/lang/String")) 0 0 D vcl (tyl cA) (wC cA a) (XC ad) σ [.int x0] post := met_N (fun r => Or.inr ⟨_, rfl⟩) (by decide) (Nat.le_of_ble_eq_true rfl) (fun p e s m args below meth c A Q fx HR H ls hw hl => e_G_skipName  fx HR h hw hl)
abbrev r_T_writeArithmetic : Room := { frames := 5, cells := 0, slots := 0, locals := 107 }
def f_T_writeArithmetic_36 (post : SS → Prop) (σ : SS) (x1 : Int32) : Prop := f_T_write (fun σ_1 => f_T_writeNumber (fun σ_3 => f_T_write (fun σ_5 => f_T_writeNumber (fun σ_7 => br ((x1 &&& 7) = 0) (post σ_7) (f_T_write (fun σ_9 => f_G_skipName (fun r_12 σ_11 => f_T_writeText (fun σ_13 => post σ_13) σ_11 r_12) σ_9 (x1 &&& 7)) σ_7 44)) σ_5 ((x1 >>> ((11 : Int32) &&& 31)) &&& 3)) σ_3 44) σ_1 ((x1 >>> ((13 : Int32) &&& 31)) &&& 3)) σ 32
def f_T_writeArithmetic (post : SS → Prop) (σ : SS) (x1 : Int32) : Prop := f_T_writeLetter (fun σ_15 => f_T_writeLetter (fun σ_17 => br ((x1 &&& 8) = 0) (f_T_writeArithmetic_36 post σ_17 x1) (f_T_write (fun σ_19 => f_T_writeArithmetic_36 post σ_19 x1) σ_17 35)) σ_15 2 ((x1 >>> ((6 : Int32) &&& 31)) &&& 3)) σ 1 ((x1 >>> ((4 : Int32) &&& 31)) &&& 3)
section
variable {p : Program} {l : Launch} {e : Env} {s : State} {m : MethodId} {args : Array Value} {below : List Frame} {meth : Method} {c : Code} {Q : State → Prop} {D : va_G} {cA : Nat → ClassId} {a : Nat → Nat} {ad : Nat → Nat → Nat} {A : Nat → Prop}
set_option maxHeartbeats 4000000 in
set_option maxRecDepth 100000 in
theorem c_T_writeArithmetic_36 (fx : CallFix p m c b_T_writeArithmetic 2 s args GW RNT) {post : SS → Prop} (HR : RetV p l e r_T_writeArithmetic s m args below meth c Q D vcl (tyl cA) (wC cA a) (XC ad) A b_T_writeArithmetic post) {σ : SS} {x1 : Int32} {H : Heap} {locs : List Loc} {ls : Array Slot} (h : f_T_writeArithmetic_36 post σ x1) (hw : CX D vcl (tyl cA) (wC cA a σ) (XC ad) A s H locs) (hl : lv_has ls 2 [(0, .ref (a 23)), (1, .int x1)]) : W p l e r_T_writeArithmetic s m args below meth c H locs 0 0 Q (F0 m 36 ls []) := by
  have hx := fx.1
  have hb := fx.2.1
  unfold f_T_writeArithmetic_36 at h
  refine lv_aload_n (pc := 36) hx hb d_T_writeArithmetic_36 rfl (lv_at hl 0 rfl) ?_
  refine lv_bipush (pc := 37) (v := 32) hx hb d_T_writeArithmetic_37 (by decide) ?_
  refine rsV (pc := 39) hw (rnV (pc := 39) xtC fx hw (c_T_write h _) cw_T_36 (rcC_23 hw) rfl ⟨Nat.le_of_ble_eq_true rfl, Nat.le_of_ble_eq_true rfl⟩ hl.1 (Nat.le_of_ble_eq_true rfl) d_T_writeArithmetic_39 ⟨Nat.zero_le _, Nat.zero_le _⟩) (fun σ_1 H locs hw h => ?_)
  refine lv_aload_n (pc := 42) hx hb d_T_writeArithmetic_42 rfl (lv_at hl 0 rfl) ?_
  refine lv_iload_n (pc := 43) hx hb d_T_writeArithmetic_43 rfl (lv_at hl 1 rfl) ?_
  refine lv_bipush (pc := 44) (v := 13) hx hb d_T_writeArithmetic_44 (by decide) ?_
  refine lv_ishr (pc := 46) hx hb d_T_writeArithmetic_46 ?_
  refine lv_iconst (pc := 47) (v := 3) hx hb d_T_writeArithmetic_47 (by decide) ?_
  refine lv_iand (pc := 48) hx hb d_T_writeArithmetic_48 ?_
  refine rsV (pc := 49) hw (rnV (pc := 49) xtC fx hw (c_T_writeNumber h _) cw_T_44 (rcC_23 hw) rfl ⟨Nat.le_of_ble_eq_true rfl, Nat.le_of_ble_eq_true rfl⟩ hl.1 (Nat.le_of_ble_eq_true rfl) d_T_writeArithmetic_49 ⟨Nat.zero_le _, Nat.zero_le _⟩) (fun σ_3 H locs hw h => ?_)
  refine lv_aload_n (pc := 52) hx hb d_T_writeArithmetic_52 rfl (lv_at hl 0 rfl) ?_
  refine lv_bipush (pc := 53) (v := 44) hx hb d_T_writeArithmetic_53 (by decide) ?_
  refine rsV (pc := 55) hw (rnV (pc := 55) xtC fx hw (c_T_write h _) cw_T_36 (rcC_23 hw) rfl ⟨Nat.le_of_ble_eq_true rfl, Nat.le_of_ble_eq_true rfl⟩ hl.1 (Nat.le_of_ble_eq_true rfl) d_T_writeArithmetic_55 ⟨Nat.zero_le _, Nat.zero_le _⟩) (fun σ_5 H locs hw h => ?_)
  refine lv_aload_n (pc := 58) hx hb d_T_writeArithmetic_58 rfl (lv_at hl 0 rfl) ?_
  refine lv_iload_n (pc := 59) hx hb d_T_writeArithmetic_59 rfl (lv_at hl 1 rfl) ?_
  refine lv_bipush (pc := 60) (v := 11) hx hb d_T_writeArithmetic_60 (by decide) ?_
  refine lv_ishr (pc := 62) hx hb d_T_writeArithmetic_62 ?_
  refine lv_iconst (pc := 63) (v := 3) hx hb d_T_writeArithmetic_63 (by decide) ?_
  refine lv_iand (pc := 64) hx hb d_T_writeArithmetic_64 ?_
  refine rsV (pc := 65) hw (rnV (pc := 65) xtC fx hw (c_T_writeNumber h _) cw_T_44 (rcC_23 hw) rfl ⟨Nat.le_of_ble_eq_true rfl, Nat.le_of_ble_eq_true rfl⟩ hl.1 (Nat.le_of_ble_eq_true rfl) d_T_writeArithmetic_65 ⟨Nat.zero_le _, Nat.zero_le _⟩) (fun σ_7 H locs hw h => ?_)
  refine lv_iload_n (pc := 68) hx hb d_T_writeArithmetic_68 rfl (lv_at hl 1 rfl) ?_
  refine lv_bipush (pc := 69) (v := 7) hx hb d_T_writeArithmetic_69 (by decide) ?_
  refine lv_iand (pc := 71) hx hb d_T_writeArithmetic_71 ?_
  refine lv_if_eq (pc := 72) (tgt := 92) hx hb d_T_writeArithmetic_72 (by decide) (fun c9 => ?_) (fun c9 => ?_)
  · replace h := h.1 c9
    exact HR d_T_writeArithmetic_92 h hw
  · replace h := h.2 c9
    refine lv_aload_n (pc := 75) hx hb d_T_writeArithmetic_75 rfl (lv_at hl 0 rfl) ?_
    refine lv_bipush (pc := 76) (v := 44) hx hb d_T_writeArithmetic_76 (by decide) ?_
    refine rsV (pc := 78) hw (rnV (pc := 78) xtC fx hw (c_T_write h _) cw_T_36 (rcC_23 hw) rfl ⟨Nat.le_of_ble_eq_true rfl, Nat.le_of_ble_eq_true rfl⟩ hl.1 (Nat.le_of_ble_eq_true rfl) d_T_writeArithmetic_78 ⟨Nat.zero_le _, Nat.zero_le _⟩) (fun σ_9 H locs hw h => ?_)
    refine lv_aload_n (pc := 81) hx hb d_T_writeArithmetic_81 rfl (lv_at hl 0 rfl) ?_
    refine lv_iload_n (pc := 82) hx hb d_T_writeArithmetic_82 rfl (lv_at hl 1 rfl) ?_
    refine lv_bipush (pc := 83) (v := 7) hx hb d_T_writeArithmetic_83 (by decide) ?_
    refine lv_iand (pc := 85) hx hb d_T_writeArithmetic_85 ?_
    refine rsN (pc := 86) hw (rnS (pc := 86) xtC fx hw (c_G_skipName h _) cw_T_63 rfl ⟨Nat.le_of_ble_eq_true rfl, Nat.le_of_ble_eq_true rfl⟩ hl.1 (Nat.le_of_ble_eq_true rfl) d_T_writeArithmetic_86 ⟨Nat.zero_le _, Nat.zero_le _⟩) (fun r_12 σ_11 H locs hw h => ?_)
    refine rsV (pc := 89) hw (rnV (pc := 89) xtC fx hw (c_T_writeText h _) cw_T_29 (rcC_23 hw) rfl ⟨Nat.le_of_ble_eq_true rfl, Nat.le_of_ble_eq_true rfl⟩ hl.1 (Nat.le_of_ble_eq_true rfl) d_T_writeArithmetic_89 ⟨Nat.zero_le _, Nat.zero_le _⟩) (fun σ_13 H locs hw h => ?_)
    exact HR d_T_writeArithmetic_92 h hw
set_option maxHeartbeats 4000000 in
set_option maxRecDepth 100000 in
theorem e_T_writeArithmetic (fx : CallFix p m c b_T_writeArithmetic 2 s args GW RNT) {post : SS → Prop} (HR : RetV p l e r_T_writeArithmetic s m args below meth c Q D vcl (tyl cA) (wC cA a) (XC ad) A b_T_writeArithmetic post) {σ : SS} {x1 : Int32} {H : Heap} {locs : List Loc} {ls : Array Slot} (h : f_T_writeArithmetic post σ x1) (hw : CX D vcl (tyl cA) (wC cA a σ) (XC ad) A s H locs) (hl : lv_has ls 2 [(0, .ref (a 23)), (1, .int x1)]) : W p l e r_T_writeArithmetic s m args below meth c H locs 0 0 Q (F0 m 0 ls []) := by
  have hx := fx.1
  have hb := fx.2.1
  unfold f_T_writeArithmetic at h
  refine lv_aload_n (pc := 0) hx hb d_T_writeArithmetic_0 rfl (lv_at hl 0 rfl) ?_
  refine ldK (pc := 1) (tx := "ZOC") (j := 1) fx hw (by decide +kernel) d_T_writeArithmetic_1 ?_
  refine lv_iload_n (pc := 3) hx hb d_T_writeArithmetic_3 rfl (lv_at hl 1 rfl) ?_
  refine lv_iconst (pc := 4) (v := 4) hx hb d_T_writeArithmetic_4 (by decide) ?_
  refine lv_ishr (pc := 5) hx hb d_T_writeArithmetic_5 ?_
  refine lv_iconst (pc := 6) (v := 3) hx hb d_T_writeArithmetic_6 (by decide) ?_
  refine lv_iand (pc := 7) hx hb d_T_writeArithmetic_7 ?_
  refine rsV (pc := 8) hw (rnV (pc := 8) xtC fx hw (c_T_writeLetter h _) cw_T_57 (rcC_23 hw) rfl ⟨Nat.le_of_ble_eq_true rfl, Nat.le_of_ble_eq_true rfl⟩ hl.1 (Nat.le_of_ble_eq_true rfl) d_T_writeArithmetic_8 ⟨Nat.zero_le _, Nat.zero_le _⟩) (fun σ_15 H locs hw h => ?_)
  refine lv_aload_n (pc := 11) hx hb d_T_writeArithmetic_11 rfl (lv_at hl 0 rfl) ?_
  refine ldK (pc := 12) (tx := "LRS") (j := 2) fx hw (by decide +kernel) d_T_writeArithmetic_12 ?_
  refine lv_iload_n (pc := 14) hx hb d_T_writeArithmetic_14 rfl (lv_at hl 1 rfl) ?_
  refine lv_bipush (pc := 15) (v := 6) hx hb d_T_writeArithmetic_15 (by decide) ?_
  refine lv_ishr (pc := 17) hx hb d_T_writeArithmetic_17 ?_
  refine lv_iconst (pc := 18) (v := 3) hx hb d_T_writeArithmetic_18 (by decide) ?_
  refine lv_iand (pc := 19) hx hb d_T_writeArithmetic_19 ?_
  refine rsV (pc := 20) hw (rnV (pc := 20) xtC fx hw (c_T_writeLetter h _) cw_T_57 (rcC_23 hw) rfl ⟨Nat.le_of_ble_eq_true rfl, Nat.le_of_ble_eq_true rfl⟩ hl.1 (Nat.le_of_ble_eq_true rfl) d_T_writeArithmetic_20 ⟨Nat.zero_le _, Nat.zero_le _⟩) (fun σ_17 H locs hw h => ?_)
  refine lv_iload_n (pc := 23) hx hb d_T_writeArithmetic_23 rfl (lv_at hl 1 rfl) ?_
  refine lv_bipush (pc := 24) (v := 8) hx hb d_T_writeArithmetic_24 (by decide) ?_
  refine lv_iand (pc := 26) hx hb d_T_writeArithmetic_26 ?_
  refine lv_if_eq (pc := 27) (tgt := 36) hx hb d_T_writeArithmetic_27 (by decide) (fun c9 => ?_) (fun c9 => ?_)
  · replace h := h.1 c9
    exact c_T_writeArithmetic_36  fx HR h hw (lv_sub hl [0, 1] rfl)
  · replace h := h.2 c9
    refine lv_aload_n (pc := 30) hx hb d_T_writeArithmetic_30 rfl (lv_at hl 0 rfl) ?_
    refine lv_bipush (pc := 31) (v := 35) hx hb d_T_writeArithmetic_31 (by decide) ?_
    refine rsV (pc := 33) hw (rnV (pc := 33) xtC fx hw (c_T_write h _) cw_T_36 (rcC_23 hw) rfl ⟨Nat.le_of_ble_eq_true rfl, Nat.le_of_ble_eq_true rfl⟩ hl.1 (Nat.le_of_ble_eq_true rfl) d_T_writeArithmetic_33 ⟨Nat.zero_le _, Nat.zero_le _⟩) (fun σ_19 H locs hw h => ?_)
    exact c_T_writeArithmetic_36  fx HR h hw (lv_sub hl [0, 1] rfl)
end
theorem c_T_writeArithmetic {l : Launch} {D : va_G} {cA : Nat → ClassId} {a : Nat → Nat} {ad : Nat → Nat → Nat} {σ : SS} {post : SS → Prop} {x1 : Int32} (h : f_T_writeArithmetic post σ x1) : mV l y_T_writeArithmetic b_T_writeArithmetic 2 none 5 107 D vcl (tyl cA) (wC cA a) (XC ad) σ [.ref (a 23), .int x1] post := met_V (by decide) (Nat.le_of_ble_eq_true rfl) (fun p e s m args below meth c A Q fx HR H ls hw hl => e_T_writeArithmetic  fx HR h hw hl)
abbrev r_T_describe : Room := { frames := 6, cells := 0, slots := 0, locals := 129 }
def f_T_describe_140 (post : Int32 → SS → Prop) (σ : SS) (s0 : Int32) (s1 : Int32) : Prop := f_T_writeTransfer (fun σ_1 => post (σ_1.1 39) σ_1) σ s1 s0
def f_T_describe (post : Int32 → SS → Prop) (σ : SS) (x1 : Int32) : Prop := nm (sI σ 39 0) fun σ_3 => f_S_making (fun r_5 σ_4 => (r_5 < 35) ∧ f_T_writeText (fun σ_7 => nm (eS_form r_5) fun xs_9 => br (xs_9 = (2 : Int32)) (f_T_write (fun σ_11 => f_T_writeAddress (fun σ_13 => post (σ_13.1 39) σ_13) σ_11 x1) σ_7 32) (br (xs_9 = (3 : Int32)) (f_T_write (fun σ_16 => f_T_writeNumber (fun σ_18 => f_T_write (fun σ_20 => f_T_writeAddress (fun σ_22 => post (σ_22.1 39) σ_22) σ_20 x1) σ_18 44) σ_16 ((x1 >>> ((11 : Int32) &&& 31)) &&& 3)) σ_7 32) (br (xs_9 = (4 : Int32)) (f_T_writeArithmetic (fun σ_25 => post (σ_25.1 39) σ_25) σ_7 x1) (br (xs_9 = (5 : Int32)) (br ((eS_form r_5) = 6) (f_T_describe_140 post σ_7 1 x1) (f_T_describe_140 post σ_7 0 x1)) (br (xs_9 = (6 : Int32)) (br ((eS_form r_5) = 6) (f_T_describe_140 post σ_7 1 x1) (f_T_describe_140 post σ_7 0 x1)) (br (xs_9 = (7 : Int32)) (f_T_write (fun σ_30 => f_T_writeNumber (fun σ_32 => post (σ_32.1 39) σ_32) σ_30 (x1 &&& 63)) σ_7 32) (br (xs_9 = (8 : Int32)) (post (σ_7.1 39) σ_7) (br (xs_9 = (9 : Int32)) (f_T_write (fun σ_36 => f_T_writeNumber (fun σ_38 => post (σ_38.1 39) σ_38) σ_36 ((x1 >>> ((11 : Int32) &&& 31)) &&& 3)) σ_7 32) (br (xs_9 = (10 : Int32)) (f_T_writeNumber (fun σ_41 => post (σ_41.1 39) σ_41) σ_7 x1) (post (σ_7.1 39) σ_7)))))))))) σ_4 (eS_letters r_5)) σ_3 x1
section
variable {p : Program} {l : Launch} {e : Env} {s : State} {m : MethodId} {args : Array Value} {below : List Frame} {meth : Method} {c : Code} {Q : State → Prop} {D : va_G} {cA : Nat → ClassId} {a : Nat → Nat} {ad : Nat → Nat → Nat} {A : Nat → Prop}
set_option maxHeartbeats 4000000 in
set_option maxRecDepth 100000 in
theorem c_T_describe_140 (fx : CallFix p m c b_T_describe 3 s args GW RNT) {post : Int32 → SS → Prop} (HR : RetI p l e r_T_describe s m args below meth c Q D vcl (tyl cA) (wC cA a) (XC ad) A b_T_describe .int post) {σ : SS} {s0 : Int32} {s1 : Int32} {H : Heap} {locs : List Loc} {ls : Array Slot} (h : f_T_describe_140 post σ s0 s1) (hw : CX D vcl (tyl cA) (wC cA a σ) (XC ad) A s H locs) (hl : lv_has ls 3 [(0, .ref (a 23))]) : W p l e r_T_describe s m args below meth c H locs 0 0 Q (F0 m 140 ls [.int s0, .int s1, .ref (a 23)]) := by
  have hx := fx.1
  have hb := fx.2.1
  unfold f_T_describe_140 at h
  refine rsV (pc := 140) hw (rnV (pc := 140) xtC fx hw (c_T_writeTransfer h _) cw_T_50 (rcC_23 hw) rfl ⟨Nat.le_of_ble_eq_true rfl, Nat.le_of_ble_eq_true rfl⟩ hl.1 (Nat.le_of_ble_eq_true rfl) d_T_describe_140 ⟨Nat.zero_le _, Nat.zero_le _⟩) (fun σ_1 H locs hw h => ?_)
  refine lv_goto (pc := 143) (tgt := 190) hx hb d_T_describe_143 (by decide) ?_
  refine lv_aload_n (pc := 190) hx hb d_T_describe_190 rfl (lv_at hl 0 rfl) ?_
  refine gC_23_length (pc := 191) fx hw kw_270 d_T_describe_191 ?_
  exact HR rfl d_T_describe_194 h hw
set_option maxHeartbeats 4000000 in
set_option maxRecDepth 100000 in
theorem e_T_describe (fx : CallFix p m c b_T_describe 3 s args GW RNT) {post : Int32 → SS → Prop} (HR : RetI p l e r_T_describe s m args below meth c Q D vcl (tyl cA) (wC cA a) (XC ad) A b_T_describe .int post) {σ : SS} {x1 : Int32} {H : Heap} {locs : List Loc} {ls : Array Slot} (h : f_T_describe post σ x1) (hw : CX D vcl (tyl cA) (wC cA a σ) (XC ad) A s H locs) (hl : lv_has ls 3 [(0, .ref (a 23)), (1, .int x1)]) : W p l e r_T_describe s m args below meth c H locs 0 0 Q (F0 m 0 ls []) := by
  have hx := fx.1
  have hb := fx.2.1
  unfold f_T_describe at h
  refine lv_aload_n (pc := 0) hx hb d_T_describe_0 rfl (lv_at hl 0 rfl) ?_
  refine lv_iconst (pc := 1) (v := 0) hx hb d_T_describe_1 (by decide) ?_
  refine pC_23_length (pc := 2) fx hw kw_270 d_T_describe_2 (fun σ_3 e9 H locs hw => ?_)
  replace h := nm_u h e9
  clear e9
  refine lv_iload_n (pc := 5) hx hb d_T_describe_5 rfl (lv_at hl 1 rfl) ?_
  refine rsN (pc := 6) hw (rnS (pc := 6) xtC fx hw (c_S_making h _) cw_T_19 rfl ⟨Nat.le_of_ble_eq_true rfl, Nat.le_of_ble_eq_true rfl⟩ hl.1 (Nat.le_of_ble_eq_true rfl) d_T_describe_6 ⟨Nat.zero_le _, Nat.zero_le _⟩) (fun r_5 σ_4 H locs hw h => ?_)
  refine lv_astore_n (pc := 9) (lv' := [(2, .ref (ad 0 r_5)), (0, .ref (a 23)), (1, .int x1)]) hx hb d_T_describe_9 rfl hl (by decide) rfl (fun ls hl => ?_)
  refine lv_aload_n (pc := 10) hx hb d_T_describe_10 rfl (lv_at hl 1 rfl) ?_
  refine lv_aload_n (pc := 11) hx hb d_T_describe_11 rfl (lv_at hl 0 rfl) ?_
  have b_6 := h.1
  replace h := h.2
  refine geS_letters (pc := 12) fx hw b_6 kw_1560 d_T_describe_12 ?_
  refine rsV (pc := 15) hw (rnV (pc := 15) xtC fx hw (c_T_writeText h _) cw_T_29 (rcC_23 hw) rfl ⟨Nat.le_of_ble_eq_true rfl, Nat.le_of_ble_eq_true rfl⟩ hl.1 (Nat.le_of_ble_eq_true rfl) d_T_describe_15 ⟨Nat.zero_le _, Nat.zero_le _⟩) (fun σ_7 H locs hw h => ?_)
  refine lv_aload_n (pc := 18) hx hb d_T_describe_18 rfl (lv_at hl 0 rfl) ?_
  refine geS_form (pc := 19) fx hw b_6 kw_1561 d_T_describe_19 ?_
  refine lv_topi (fun xs_9 e9 => ?_)
  replace h := nm_u h e9
  clear e9
  by_cases cq_10 : xs_9 = (2 : Int32)
  · replace h := h.1 cq_10
    refine lv_tableIn (pc := 22) (off := 50) (tgt := 72) hx hb d_T_describe_22 (by rw [cq_10]; decide) (by rw [cq_10]; decide) (by rw [cq_10]; rfl) (by decide) ?_
    refine lv_aload_n (pc := 72) hx hb d_T_describe_72 rfl (lv_at hl 1 rfl) ?_
    refine lv_bipush (pc := 73) (v := 32) hx hb d_T_describe_73 (by decide) ?_
    refine rsV (pc := 75) hw (rnV (pc := 75) xtC fx hw (c_T_write h _) cw_T_36 (rcC_23 hw) rfl ⟨Nat.le_of_ble_eq_true rfl, Nat.le_of_ble_eq_true rfl⟩ hl.1 (Nat.le_of_ble_eq_true rfl) d_T_describe_75 ⟨Nat.zero_le _, Nat.zero_le _⟩) (fun σ_11 H locs hw h => ?_)
    refine lv_aload_n (pc := 78) hx hb d_T_describe_78 rfl (lv_at hl 1 rfl) ?_
    refine lv_iload_n (pc := 79) hx hb d_T_describe_79 rfl (lv_at hl 2 rfl) ?_
    refine rsV (pc := 80) hw (rnV (pc := 80) xtC fx hw (c_T_writeAddress h _) cw_T_40 (rcC_23 hw) rfl ⟨Nat.le_of_ble_eq_true rfl, Nat.le_of_ble_eq_true rfl⟩ hl.1 (Nat.le_of_ble_eq_true rfl) d_T_describe_80 ⟨Nat.zero_le _, Nat.zero_le _⟩) (fun σ_13 H locs hw h => ?_)
    refine lv_goto (pc := 83) (tgt := 190) hx hb d_T_describe_83 (by decide) ?_
    refine lv_aload_n (pc := 190) hx hb d_T_describe_190 rfl (lv_at hl 1 rfl) ?_
    refine gC_23_length (pc := 191) fx hw kw_270 d_T_describe_191 ?_
    exact HR rfl d_T_describe_194 h hw
  replace h := h.2 cq_10
  by_cases cq_15 : xs_9 = (3 : Int32)
  · replace h := h.1 cq_15
    refine lv_tableIn (pc := 22) (off := 64) (tgt := 86) hx hb d_T_describe_22 (by rw [cq_15]; decide) (by rw [cq_15]; decide) (by rw [cq_15]; rfl) (by decide) ?_
    refine lv_aload_n (pc := 86) hx hb d_T_describe_86 rfl (lv_at hl 1 rfl) ?_
    refine lv_bipush (pc := 87) (v := 32) hx hb d_T_describe_87 (by decide) ?_
    refine rsV (pc := 89) hw (rnV (pc := 89) xtC fx hw (c_T_write h _) cw_T_36 (rcC_23 hw) rfl ⟨Nat.le_of_ble_eq_true rfl, Nat.le_of_ble_eq_true rfl⟩ hl.1 (Nat.le_of_ble_eq_true rfl) d_T_describe_89 ⟨Nat.zero_le _, Nat.zero_le _⟩) (fun σ_16 H locs hw h => ?_)
    refine lv_aload_n (pc := 92) hx hb d_T_describe_92 rfl (lv_at hl 1 rfl) ?_
    refine lv_iload_n (pc := 93) hx hb d_T_describe_93 rfl (lv_at hl 2 rfl) ?_
    refine lv_bipush (pc := 94) (v := 11) hx hb d_T_describe_94 (by decide) ?_
    refine lv_ishr (pc := 96) hx hb d_T_describe_96 ?_
    refine lv_iconst (pc := 97) (v := 3) hx hb d_T_describe_97 (by decide) ?_
    refine lv_iand (pc := 98) hx hb d_T_describe_98 ?_
    refine rsV (pc := 99) hw (rnV (pc := 99) xtC fx hw (c_T_writeNumber h _) cw_T_44 (rcC_23 hw) rfl ⟨Nat.le_of_ble_eq_true rfl, Nat.le_of_ble_eq_true rfl⟩ hl.1 (Nat.le_of_ble_eq_true rfl) d_T_describe_99 ⟨Nat.zero_le _, Nat.zero_le _⟩) (fun σ_18 H locs hw h => ?_)
    refine lv_aload_n (pc := 102) hx hb d_T_describe_102 rfl (lv_at hl 1 rfl) ?_
    refine lv_bipush (pc := 103) (v := 44) hx hb d_T_describe_103 (by decide) ?_
    refine rsV (pc := 105) hw (rnV (pc := 105) xtC fx hw (c_T_write h _) cw_T_36 (rcC_23 hw) rfl ⟨Nat.le_of_ble_eq_true rfl, Nat.le_of_ble_eq_true rfl⟩ hl.1 (Nat.le_of_ble_eq_true rfl) d_T_describe_105 ⟨Nat.zero_le _, Nat.zero_le _⟩) (fun σ_20 H locs hw h => ?_)
    refine lv_aload_n (pc := 108) hx hb d_T_describe_108 rfl (lv_at hl 1 rfl) ?_
    refine lv_iload_n (pc := 109) hx hb d_T_describe_109 rfl (lv_at hl 2 rfl) ?_
    refine rsV (pc := 110) hw (rnV (pc := 110) xtC fx hw (c_T_writeAddress h _) cw_T_40 (rcC_23 hw) rfl ⟨Nat.le_of_ble_eq_true rfl, Nat.le_of_ble_eq_true rfl⟩ hl.1 (Nat.le_of_ble_eq_true rfl) d_T_describe_110 ⟨Nat.zero_le _, Nat.zero_le _⟩) (fun σ_22 H locs hw h => ?_)
    refine lv_goto (pc := 113) (tgt := 190) hx hb d_T_describe_113 (by decide) ?_
    refine lv_aload_n (pc := 190) hx hb d_T_describe_190 rfl (lv_at hl 1 rfl) ?_
    refine gC_23_length (pc := 191) fx hw kw_270 d_T_describe_191 ?_
    exact HR rfl d_T_describe_194 h hw
  replace h := h.2 cq_15
  by_cases cq_24 : xs_9 = (4 : Int32)
  · replace h := h.1 cq_24
    refine lv_tableIn (pc := 22) (off := 94) (tgt := 116) hx hb d_T_describe_22 (by rw [cq_24]; decide) (by rw [cq_24]; decide) (by rw [cq_24]; rfl) (by decide) ?_
    refine lv_aload_n (pc := 116) hx hb d_T_describe_116 rfl (lv_at hl 1 rfl) ?_
    refine lv_iload_n (pc := 117) hx hb d_T_describe_117 rfl (lv_at hl 2 rfl) ?_
    refine rsV (pc := 118) hw (rnV (pc := 118) xtC fx hw (c_T_writeArithmetic h _) cw_T_47 (rcC_23 hw) rfl ⟨Nat.le_of_ble_eq_true rfl, Nat.le_of_ble_eq_true rfl⟩ hl.1 (Nat.le_of_ble_eq_true rfl) d_T_describe_118 ⟨Nat.zero_le _, Nat.zero_le _⟩) (fun σ_25 H locs hw h => ?_)
    refine lv_goto (pc := 121) (tgt := 190) hx hb d_T_describe_121 (by decide) ?_
    refine lv_aload_n (pc := 190) hx hb d_T_describe_190 rfl (lv_at hl 1 rfl) ?_
    refine gC_23_length (pc := 191) fx hw kw_270 d_T_describe_191 ?_
    exact HR rfl d_T_describe_194 h hw
  replace h := h.2 cq_24
  by_cases cq_27 : xs_9 = (5 : Int32)
  · replace h := h.1 cq_27
    refine lv_tableIn (pc := 22) (off := 102) (tgt := 124) hx hb d_T_describe_22 (by rw [cq_27]; decide) (by rw [cq_27]; decide) (by rw [cq_27]; rfl) (by decide) ?_
    refine lv_aload_n (pc := 124) hx hb d_T_describe_124 rfl (lv_at hl 1 rfl) ?_
    refine lv_iload_n (pc := 125) hx hb d_T_describe_125 rfl (lv_at hl 2 rfl) ?_
    refine lv_aload_n (pc := 126) hx hb d_T_describe_126 rfl (lv_at hl 0 rfl) ?_
    refine geS_form (pc := 127) fx hw b_6 kw_1561 d_T_describe_127 ?_
    refine lv_bipush (pc := 130) (v := 6) hx hb d_T_describe_130 (by decide) ?_
    refine lv_icmp_ne (pc := 132) (tgt := 139) hx hb d_T_describe_132 (by decide) (fun c9 => ?_) (fun c9 => ?_)
    · replace h := h.2 c9
      refine lv_iconst (pc := 139) (v := 0) hx hb d_T_describe_139 (by decide) ?_
      exact c_T_describe_140  fx HR h hw (lv_sub hl [1] rfl)
    · replace h := h.1 c9
      refine lv_iconst (pc := 135) (v := 1) hx hb d_T_describe_135 (by decide) ?_
      refine lv_goto (pc := 136) (tgt := 140) hx hb d_T_describe_136 (by decide) ?_
      exact c_T_describe_140  fx HR h hw (lv_sub hl [1] rfl)
  replace h := h.2 cq_27
  by_cases cq_28 : xs_9 = (6 : Int32)
  · replace h := h.1 cq_28
    refine lv_tableIn (pc := 22) (off := 102) (tgt := 124) hx hb d_T_describe_22 (by rw [cq_28]; decide) (by rw [cq_28]; decide) (by rw [cq_28]; rfl) (by decide) ?_
    refine lv_aload_n (pc := 124) hx hb d_T_describe_124 rfl (lv_at hl 1 rfl) ?_
    refine lv_iload_n (pc := 125) hx hb d_T_describe_125 rfl (lv_at hl 2 rfl) ?_
    refine lv_aload_n (pc := 126) hx hb d_T_describe_126 rfl (lv_at hl 0 rfl) ?_
    refine geS_form (pc := 127) fx hw b_6 kw_1561 d_T_describe_127 ?_
    refine lv_bipush (pc := 130) (v := 6) hx hb d_T_describe_130 (by decide) ?_
    refine lv_icmp_ne (pc := 132) (tgt := 139) hx hb d_T_describe_132 (by decide) (fun c9 => ?_) (fun c9 => ?_)
    · replace h := h.2 c9
      refine lv_iconst (pc := 139) (v := 0) hx hb d_T_describe_139 (by decide) ?_
      exact c_T_describe_140  fx HR h hw (lv_sub hl [1] rfl)
    · replace h := h.1 c9
      refine lv_iconst (pc := 135) (v := 1) hx hb d_T_describe_135 (by decide) ?_
      refine lv_goto (pc := 136) (tgt := 140) hx hb d_T_describe_136 (by decide) ?_
      exact c_T_describe_140  fx HR h hw (lv_sub hl [1] rfl)
  replace h := h.2 cq_28
  by_cases cq_29 : xs_9 = (7 : Int32)
  · replace h := h.1 cq_29
    refine lv_tableIn (pc := 22) (off := 124) (tgt := 146) hx hb d_T_describe_22 (by rw [cq_29]; decide) (by rw [cq_29]; decide) (by rw [cq_29]; rfl) (by decide) ?_
    refine lv_aload_n (pc := 146) hx hb d_T_describe_146 rfl (lv_at hl 1 rfl) ?_
    refine lv_bipush (pc := 147) (v := 32) hx hb d_T_describe_147 (by decide) ?_
    refine rsV (pc := 149) hw (rnV (pc := 149) xtC fx hw (c_T_write h _) cw_T_36 (rcC_23 hw) rfl ⟨Nat.le_of_ble_eq_true rfl, Nat.le_of_ble_eq_true rfl⟩ hl.1 (Nat.le_of_ble_eq_true rfl) d_T_describe_149 ⟨Nat.zero_le _, Nat.zero_le _⟩) (fun σ_30 H locs hw h => ?_)
    refine lv_aload_n (pc := 152) hx hb d_T_describe_152 rfl (lv_at hl 1 rfl) ?_
    refine lv_iload_n (pc := 153) hx hb d_T_describe_153 rfl (lv_at hl 2 rfl) ?_
    refine lv_bipush (pc := 154) (v := 63) hx hb d_T_describe_154 (by decide) ?_
    refine lv_iand (pc := 156) hx hb d_T_describe_156 ?_
    refine rsV (pc := 157) hw (rnV (pc := 157) xtC fx hw (c_T_writeNumber h _) cw_T_44 (rcC_23 hw) rfl ⟨Nat.le_of_ble_eq_true rfl, Nat.le_of_ble_eq_true rfl⟩ hl.1 (Nat.le_of_ble_eq_true rfl) d_T_describe_157 ⟨Nat.zero_le _, Nat.zero_le _⟩) (fun σ_32 H locs hw h => ?_)
    refine lv_goto (pc := 160) (tgt := 190) hx hb d_T_describe_160 (by decide) ?_
    refine lv_aload_n (pc := 190) hx hb d_T_describe_190 rfl (lv_at hl 1 rfl) ?_
    refine gC_23_length (pc := 191) fx hw kw_270 d_T_describe_191 ?_
    exact HR rfl d_T_describe_194 h hw
  replace h := h.2 cq_29
  by_cases cq_34 : xs_9 = (8 : Int32)
  · replace h := h.1 cq_34
    refine lv_tableIn (pc := 22) (off := 168) (tgt := 190) hx hb d_T_describe_22 (by rw [cq_34]; decide) (by rw [cq_34]; decide) (by rw [cq_34]; rfl) (by decide) ?_
    refine lv_aload_n (pc := 190) hx hb d_T_describe_190 rfl (lv_at hl 1 rfl) ?_
    refine gC_23_length (pc := 191) fx hw kw_270 d_T_describe_191 ?_
    exact HR rfl d_T_describe_194 h hw
  replace h := h.2 cq_34
  by_cases cq_35 : xs_9 = (9 : Int32)
  · replace h := h.1 cq_35
    refine lv_tableIn (pc := 22) (off := 141) (tgt := 163) hx hb d_T_describe_22 (by rw [cq_35]; decide) (by rw [cq_35]; decide) (by rw [cq_35]; rfl) (by decide) ?_
    refine lv_aload_n (pc := 163) hx hb d_T_describe_163 rfl (lv_at hl 1 rfl) ?_
    refine lv_bipush (pc := 164) (v := 32) hx hb d_T_describe_164 (by decide) ?_
    refine rsV (pc := 166) hw (rnV (pc := 166) xtC fx hw (c_T_write h _) cw_T_36 (rcC_23 hw) rfl ⟨Nat.le_of_ble_eq_true rfl, Nat.le_of_ble_eq_true rfl⟩ hl.1 (Nat.le_of_ble_eq_true rfl) d_T_describe_166 ⟨Nat.zero_le _, Nat.zero_le _⟩) (fun σ_36 H locs hw h => ?_)
    refine lv_aload_n (pc := 169) hx hb d_T_describe_169 rfl (lv_at hl 1 rfl) ?_
    refine lv_iload_n (pc := 170) hx hb d_T_describe_170 rfl (lv_at hl 2 rfl) ?_
    refine lv_bipush (pc := 171) (v := 11) hx hb d_T_describe_171 (by decide) ?_
    refine lv_ishr (pc := 173) hx hb d_T_describe_173 ?_
    refine lv_iconst (pc := 174) (v := 3) hx hb d_T_describe_174 (by decide) ?_
    refine lv_iand (pc := 175) hx hb d_T_describe_175 ?_
    refine rsV (pc := 176) hw (rnV (pc := 176) xtC fx hw (c_T_writeNumber h _) cw_T_44 (rcC_23 hw) rfl ⟨Nat.le_of_ble_eq_true rfl, Nat.le_of_ble_eq_true rfl⟩ hl.1 (Nat.le_of_ble_eq_true rfl) d_T_describe_176 ⟨Nat.zero_le _, Nat.zero_le _⟩) (fun σ_38 H locs hw h => ?_)
    refine lv_goto (pc := 179) (tgt := 190) hx hb d_T_describe_179 (by decide) ?_
    refine lv_aload_n (pc := 190) hx hb d_T_describe_190 rfl (lv_at hl 1 rfl) ?_
    refine gC_23_length (pc := 191) fx hw kw_270 d_T_describe_191 ?_
    exact HR rfl d_T_describe_194 h hw
  replace h := h.2 cq_35
  by_cases cq_40 : xs_9 = (10 : Int32)
  · replace h := h.1 cq_40
    refine lv_tableIn (pc := 22) (off := 160) (tgt := 182) hx hb d_T_describe_22 (by rw [cq_40]; decide) (by rw [cq_40]; decide) (by rw [cq_40]; rfl) (by decide) ?_
    refine lv_aload_n (pc := 182) hx hb d_T_describe_182 rfl (lv_at hl 1 rfl) ?_
    refine lv_iload_n (pc := 183) hx hb d_T_describe_183 rfl (lv_at hl 2 rfl) ?_
    refine rsV (pc := 184) hw (rnV (pc := 184) xtC fx hw (c_T_writeNumber h _) cw_T_44 (rcC_23 hw) rfl ⟨Nat.le_of_ble_eq_true rfl, Nat.le_of_ble_eq_true rfl⟩ hl.1 (Nat.le_of_ble_eq_true rfl) d_T_describe_184 ⟨Nat.zero_le _, Nat.zero_le _⟩) (fun σ_41 H locs hw h => ?_)
    refine lv_goto (pc := 187) (tgt := 190) hx hb d_T_describe_187 (by decide) ?_
    refine lv_aload_n (pc := 190) hx hb d_T_describe_190 rfl (lv_at hl 1 rfl) ?_
    refine gC_23_length (pc := 191) fx hw kw_270 d_T_describe_191 ?_
    exact HR rfl d_T_describe_194 h hw
  replace h := h.2 cq_40
  refine lv_tableOut (pc := 22) (tgt := 190) hx hb d_T_describe_22 (by have := lv_neT cq_10 (a := 2) (by decide); have := lv_neT cq_15 (a := 3) (by decide); have := lv_neT cq_24 (a := 4) (by decide); have := lv_neT cq_27 (a := 5) (by decide); have := lv_neT cq_28 (a := 6) (by decide); have := lv_neT cq_29 (a := 7) (by decide); have := lv_neT cq_34 (a := 8) (by decide); have := lv_neT cq_35 (a := 9) (by decide); have := lv_neT cq_40 (a := 10) (by decide); omega) (by decide) ?_
  refine lv_aload_n (pc := 190) hx hb d_T_describe_190 rfl (lv_at hl 1 rfl) ?_
  refine gC_23_length (pc := 191) fx hw kw_270 d_T_describe_191 ?_
  exact HR rfl d_T_describe_194 h hw
end
theorem c_T_describe {l : Launch} {D : va_G} {cA : Nat → ClassId} {a : Nat → Nat} {ad : Nat → Nat → Nat} {σ : SS} {post : Int32 → SS → Prop} {x1 : Int32} (h : f_T_describe post σ x1) : mI l y_T_describe b_T_describe 3 (some .int) 6 129 D vcl (tyl cA) (wC cA a) (XC ad) σ [.ref (a 23), .int x1] post := met_I (by decide) (Nat.le_of_ble_eq_true rfl) (fun p e s m args below meth c A Q fx HR H ls hw hl => e_T_describe  fx HR h hw hl)
abbrev r_A_clear : Room := { frames := 1, cells := 0, slots := 0, locals := 20 }
def f_A_clear (post : SS → Prop) (σ : SS) : Prop := nm (sI σ 34 0) fun σ_1 => br (σ_1.1 24 = 0) (f_L_clear_14 (fun σ_2 => nm (sI σ_2 32 0) fun σ_4 => nm (sI σ_4 33 0) fun σ_5 => post σ_5) σ_1) (f_L_clear_17 (fun σ_6 => nm (sI σ_6 32 0) fun σ_8 => nm (sI σ_8 33 0) fun σ_9 => post σ_9) σ_1)
section
variable {p : Program} {l : Launch} {e : Env} {s : State} {m : MethodId} {args : Array Value} {below : List Frame} {meth : Method} {c : Code} {Q : State → Prop} {D : va_G} {cA : Nat → ClassId} {a : Nat → Nat} {ad : Nat → Nat → Nat} {A : Nat → Prop}
set_option maxHeartbeats 4000000 in
set_option maxRecDepth 100000 in
theorem e_A_clear (fx : CallFix p m c b_A_clear 1 s args GW RNA) {post : SS → Prop} (HR : RetV p l e r_A_clear s m args below meth c Q D vcl (tyl cA) (wC cA a) (XC ad) A b_A_clear post) {σ : SS} {H : Heap} {locs : List Loc} {ls : Array Slot} (h : f_A_clear post σ) (hw : CX D vcl (tyl cA) (wC cA a σ) (XC ad) A s H locs) (hl : lv_has ls 1 [(0, .ref (a 10))]) : W p l e r_A_clear s m args below meth c H locs 0 0 Q (F0 m 0 ls []) := by
  have hx := fx.1
  have hb := fx.2.1
  unfold f_A_clear at h
  refine lv_aload_n (pc := 0) hx hb d_A_clear_0 rfl (lv_at hl 0 rfl) ?_
  refine gC_10_items (pc := 1) fx hw kw_216 d_A_clear_1 ?_
  refine lv_iconst (pc := 4) (v := 0) hx hb d_A_clear_4 (by decide) ?_
  refine pC_11_length (pc := 5) fx hw kw_181 d_A_clear_5 (fun σ_1 e9 H locs hw => ?_)
  replace h := nm_u h e9
  clear e9
  refine lv_aload_n (pc := 8) hx hb d_A_clear_8 rfl (lv_at hl 0 rfl) ?_
  refine gC_10_latest_s (pc := 9) fx hw kw_218 d_A_clear_9 (fun c9 => ?_) (fun c9 => ?_)
  · replace h := h.1 c9
    refine rsV (pc := 12) hw (rnV (pc := 12) xtC fx hw (c_L_clear_14 h _) cw_A_42 (rcC_14 hw) rfl ⟨Nat.le_of_ble_eq_true rfl, Nat.le_of_ble_eq_true rfl⟩ hl.1 (Nat.le_of_ble_eq_true rfl) d_A_clear_12 ⟨Nat.zero_le _, Nat.zero_le _⟩) (fun σ_2 H locs hw h => ?_)
    refine lv_aload_n (pc := 15) hx hb d_A_clear_15 rfl (lv_at hl 0 rfl) ?_
    refine lv_iconst (pc := 16) (v := 0) hx hb d_A_clear_16 (by decide) ?_
    refine pC_10_faultNumber (pc := 17) fx hw kw_230 d_A_clear_17 (fun σ_4 e9 H locs hw => ?_)
    replace h := nm_u h e9
    clear e9
    refine lv_aload_n (pc := 20) hx hb d_A_clear_20 rfl (lv_at hl 0 rfl) ?_
    refine lv_iconst (pc := 21) (v := 0) hx hb d_A_clear_21 (by decide) ?_
    refine pC_10_faultLine (pc := 22) fx hw kw_232 d_A_clear_22 (fun σ_5 e9 H locs hw => ?_)
    replace h := nm_u h e9
    clear e9
    exact HR d_A_clear_25 h hw
  · replace h := h.2 c9
    refine rsV (pc := 12) hw (rnV (pc := 12) xtC fx hw (c_L_clear_17 h _) cw_A_42 (rcC_17 hw) rfl ⟨Nat.le_of_ble_eq_true rfl, Nat.le_of_ble_eq_true rfl⟩ hl.1 (Nat.le_of_ble_eq_true rfl) d_A_clear_12 ⟨Nat.zero_le _, Nat.zero_le _⟩) (fun σ_6 H locs hw h => ?_)
    refine lv_aload_n (pc := 15) hx hb d_A_clear_15 rfl (lv_at hl 0 rfl) ?_
    refine lv_iconst (pc := 16) (v := 0) hx hb d_A_clear_16 (by decide) ?_
    refine pC_10_faultNumber (pc := 17) fx hw kw_230 d_A_clear_17 (fun σ_8 e9 H locs hw => ?_)
    replace h := nm_u h e9
    clear e9
    refine lv_aload_n (pc := 20) hx hb d_A_clear_20 rfl (lv_at hl 0 rfl) ?_
    refine lv_iconst (pc := 21) (v := 0) hx hb d_A_clear_21 (by decide) ?_
    refine pC_10_faultLine (pc := 22) fx hw kw_232 d_A_clear_22 (fun σ_9 e9 H locs hw => ?_)
    replace h := nm_u h e9
    clear e9
    exact HR d_A_clear_25 h hw
end
theorem c_A_clear {l : Launch} {D : va_G} {cA : Nat → ClassId} {a : Nat → Nat} {ad : Nat → Nat → Nat} {σ : SS} {post : SS → Prop} (h : f_A_clear post σ) : mV l y_A_clear b_A_clear 1 none 1 20 D vcl (tyl cA) (wC cA a) (XC ad) σ [.ref (a 10)] post := met_V (by decide) (Nat.le_of_ble_eq_true rfl) (fun p e s m args below meth c A Q fx HR H ls hw hl => e_A_clear  fx HR h hw hl)
abbrev r_A_begin : Room := { frames := 6, cells := 0, slots := 0, locals := 133 }
def f_A_begin (post : SS → Prop) (σ : SS) : Prop := f_I_split (fun σ_1 => br (σ_1.1 25 = 0) (f_L_clear_14 (fun σ_3 => nm (sI σ_3 26 0) fun σ_5 => nm (sI σ_5 32 0) fun σ_6 => nm (sI σ_6 33 0) fun σ_7 => post σ_7) σ_1) (f_L_clear_17 (fun σ_8 => nm (sI σ_8 26 0) fun σ_10 => nm (sI σ_10 32 0) fun σ_11 => nm (sI σ_11 33 0) fun σ_12 => post σ_12) σ_1)) σ
section
variable {p : Program} {l : Launch} {e : Env} {s : State} {m : MethodId} {args : Array Value} {below : List Frame} {meth : Method} {c : Code} {Q : State → Prop} {D : va_G} {cA : Nat → ClassId} {a : Nat → Nat} {ad : Nat → Nat → Nat} {A : Nat → Prop}
set_option maxHeartbeats 4000000 in
set_option maxRecDepth 100000 in
theorem e_A_begin (fx : CallFix p m c b_A_begin 1 s args GW RNA) {post : SS → Prop} (HR : RetV p l e r_A_begin s m args below meth c Q D vcl (tyl cA) (wC cA a) (XC ad) A b_A_begin post) {σ : SS} {H : Heap} {locs : List Loc} {ls : Array Slot} (h : f_A_begin post σ) (hw : CX D vcl (tyl cA) (wC cA a σ) (XC ad) A s H locs) (hl : lv_has ls 1 [(0, .ref (a 10))]) : W p l e r_A_begin s m args below meth c H locs 0 0 Q (F0 m 0 ls []) := by
  have hx := fx.1
  have hb := fx.2.1
  unfold f_A_begin at h
  refine lv_aload_n (pc := 0) hx hb d_A_begin_0 rfl (lv_at hl 0 rfl) ?_
  refine gC_10_items (pc := 1) fx hw kw_216 d_A_begin_1 ?_
  refine rsV (pc := 4) hw (rnV (pc := 4) xtC fx hw (c_I_split h _) cw_A_51 (rcC_11 hw) rfl ⟨Nat.le_of_ble_eq_true rfl, Nat.le_of_ble_eq_true rfl⟩ hl.1 (Nat.le_of_ble_eq_true rfl) d_A_begin_4 ⟨Nat.zero_le _, Nat.zero_le _⟩) (fun σ_1 H locs hw h => ?_)
  refine lv_aload_n (pc := 7) hx hb d_A_begin_7 rfl (lv_at hl 0 rfl) ?_
  refine gC_10_fresh_s (pc := 8) fx hw kw_220 d_A_begin_8 (fun c9 => ?_) (fun c9 => ?_)
  · replace h := h.1 c9
    refine rsV (pc := 11) hw (rnV (pc := 11) xtC fx hw (c_L_clear_14 h _) cw_A_42 (rcC_14 hw) rfl ⟨Nat.le_of_ble_eq_true rfl, Nat.le_of_ble_eq_true rfl⟩ hl.1 (Nat.le_of_ble_eq_true rfl) d_A_begin_11 ⟨Nat.zero_le _, Nat.zero_le _⟩) (fun σ_3 H locs hw h => ?_)
    refine lv_aload_n (pc := 14) hx hb d_A_begin_14 rfl (lv_at hl 0 rfl) ?_
    refine lv_iconst (pc := 15) (v := 0) hx hb d_A_begin_15 (by decide) ?_
    refine pC_10_made (pc := 16) fx hw kw_223 d_A_begin_16 (fun σ_5 e9 H locs hw => ?_)
    replace h := nm_u h e9
    clear e9
    refine lv_aload_n (pc := 19) hx hb d_A_begin_19 rfl (lv_at hl 0 rfl) ?_
    refine lv_iconst (pc := 20) (v := 0) hx hb d_A_begin_20 (by decide) ?_
    refine pC_10_faultNumber (pc := 21) fx hw kw_230 d_A_begin_21 (fun σ_6 e9 H locs hw => ?_)
    replace h := nm_u h e9
    clear e9
    refine lv_aload_n (pc := 24) hx hb d_A_begin_24 rfl (lv_at hl 0 rfl) ?_
    refine lv_iconst (pc := 25) (v := 0) hx hb d_A_begin_25 (by decide) ?_
    refine pC_10_faultLine (pc := 26) fx hw kw_232 d_A_begin_26 (fun σ_7 e9 H locs hw => ?_)
    replace h := nm_u h e9
    clear e9
    exact HR d_A_begin_29 h hw
  · replace h := h.2 c9
    refine rsV (pc := 11) hw (rnV (pc := 11) xtC fx hw (c_L_clear_17 h _) cw_A_42 (rcC_17 hw) rfl ⟨Nat.le_of_ble_eq_true rfl, Nat.le_of_ble_eq_true rfl⟩ hl.1 (Nat.le_of_ble_eq_true rfl) d_A_begin_11 ⟨Nat.zero_le _, Nat.zero_le _⟩) (fun σ_8 H locs hw h => ?_)
    refine lv_aload_n (pc := 14) hx hb d_A_begin_14 rfl (lv_at hl 0 rfl) ?_
    refine lv_iconst (pc := 15) (v := 0) hx hb d_A_begin_15 (by decide) ?_
    refine pC_10_made (pc := 16) fx hw kw_223 d_A_begin_16 (fun σ_10 e9 H locs hw => ?_)
    replace h := nm_u h e9
    clear e9
    refine lv_aload_n (pc := 19) hx hb d_A_begin_19 rfl (lv_at hl 0 rfl) ?_
    refine lv_iconst (pc := 20) (v := 0) hx hb d_A_begin_20 (by decide) ?_
    refine pC_10_faultNumber (pc := 21) fx hw kw_230 d_A_begin_21 (fun σ_11 e9 H locs hw => ?_)
    replace h := nm_u h e9
    clear e9
    refine lv_aload_n (pc := 24) hx hb d_A_begin_24 rfl (lv_at hl 0 rfl) ?_
    refine lv_iconst (pc := 25) (v := 0) hx hb d_A_begin_25 (by decide) ?_
    refine pC_10_faultLine (pc := 26) fx hw kw_232 d_A_begin_26 (fun σ_12 e9 H locs hw => ?_)
    replace h := nm_u h e9
    clear e9
    exact HR d_A_begin_29 h hw
end
theorem c_A_begin {l : Launch} {D : va_G} {cA : Nat → ClassId} {a : Nat → Nat} {ad : Nat → Nat → Nat} {σ : SS} {post : SS → Prop} (h : f_A_begin post σ) : mV l y_A_begin b_A_begin 1 none 6 133 D vcl (tyl cA) (wC cA a) (XC ad) σ [.ref (a 10)] post := met_V (by decide) (Nat.le_of_ble_eq_true rfl) (fun p e s m args below meth c A Q fx HR H ls hw hl => e_A_begin  fx HR h hw hl)
abbrev r_A_finish : Room := { frames := 1, cells := 0, slots := 0, locals := 22 }
def f_A_finish_19_11 (post : Int32 → SS → Prop) : Nat → SS → Int32 → Prop
  | 0, _, _ => False
  | n + 1, σ, x2 => br ((σ.1 26) ≤ x2) (br (σ.1 24 = 0) (br (σ.1 25 = 0) (nm (sI σ 24 0) fun σ_1 => nm (sI σ_1 25 0) fun σ_2 => post (σ_2.1 26) σ_2) (nm (sI σ 24 1) fun σ_3 => nm (sI σ_3 25 0) fun σ_4 => post (σ_4.1 26) σ_4)) (br (σ.1 25 = 0) (nm (sI σ 24 0) fun σ_5 => nm (sI σ_5 25 1) fun σ_6 => post (σ_6.1 26) σ_6) (nm (sI σ 24 1) fun σ_7 => nm (sI σ_7 25 1) fun σ_8 => post (σ_8.1 26) σ_8))) (vp_in x2 3000 ∧ vp_in x2 3000 ∧ f_M_store (fun σ_9 => nm (x2 + 1) fun x2_11 => f_A_finish_19_11 post n σ_9 x2_11) σ (σ.2.1 20 x2.toNatClampNeg) (σ.2.1 21 x2.toNatClampNeg))
def f_A_finish (post : Int32 → SS → Prop) (σ : SS) : Prop := nm (sI σ 34 0) fun σ_12 => br ((σ_12.1 32) = 0) (∃ n9, f_A_finish_19_11 post n9 σ_12 0) (post (-1) σ_12)
section
variable {p : Program} {l : Launch} {e : Env} {s : State} {m : MethodId} {args : Array Value} {below : List Frame} {meth : Method} {c : Code} {Q : State → Prop} {D : va_G} {cA : Nat → ClassId} {a : Nat → Nat} {ad : Nat → Nat → Nat} {A : Nat → Prop}
set_option maxHeartbeats 4000000 in
set_option maxRecDepth 100000 in
theorem c_A_finish_19_11 (fx : CallFix p m c b_A_finish 3 s args GW RNA) {post : Int32 → SS → Prop} (HR : RetI p l e r_A_finish s m args below meth c Q D vcl (tyl cA) (wC cA a) (XC ad) A b_A_finish .int post) : ∀ (n : Nat) {σ : SS} {x2 : Int32} {H : Heap} {locs : List Loc} {ls : Array Slot}, f_A_finish_19_11 post n σ x2 → CX D vcl (tyl cA) (wC cA a σ) (XC ad) A s H locs → lv_has ls 3 [(0, .ref (a 10)), (1, .ref (a 1)), (2, .int x2)] → W p l e r_A_finish s m args below meth c H locs 0 0 Q (F0 m 19 ls []) := by
  have hx := fx.1
  have hb := fx.2.1
  intro n
  induction n with
  | zero => intro σ x2 H locs ls h; exact h.elim
  | succ n ih =>
    intro σ x2 H locs ls h hw hl
    have K19 := @ih
    unfold f_A_finish_19_11 at h
    refine lv_iload_n (pc := 19) hx hb d_A_finish_19 rfl (lv_at hl 2 rfl) ?_
    refine lv_aload_n (pc := 20) hx hb d_A_finish_20 rfl (lv_at hl 0 rfl) ?_
    refine gC_10_made (pc := 21) fx hw kw_223 d_A_finish_21 ?_
    refine lv_icmp_ge (pc := 24) (tgt := 49) hx hb d_A_finish_24 (by decide) (fun c9 => ?_) (fun c9 => ?_)
    · replace h := h.1 c9
      refine lv_aload_n (pc := 49) hx hb d_A_finish_49 rfl (lv_at hl 0 rfl) ?_
      refine gC_10_latest_s (pc := 50) fx hw kw_218 d_A_finish_50 (fun c9 => ?_) (fun c9 => ?_)
      · replace h := h.1 c9
        refine lv_astore_n (pc := 53) (lv' := [(2, .ref (a 14)), (0, .ref (a 10)), (1, .ref (a 1))]) hx hb d_A_finish_53 rfl hl (by decide) rfl (fun ls hl => ?_)
        refine lv_aload_n (pc := 54) hx hb d_A_finish_54 rfl (lv_at hl 1 rfl) ?_
        refine lv_aload_n (pc := 55) hx hb d_A_finish_55 rfl (lv_at hl 1 rfl) ?_
        refine gC_10_fresh_s (pc := 56) fx hw kw_220 d_A_finish_56 (fun c9 => ?_) (fun c9 => ?_)
        · replace h := h.1 c9
          refine pC_10_latest_14 (pc := 59) fx hw kw_218 d_A_finish_59 (fun σ_1 e9 H locs hw => ?_)
          replace h := nm_u h e9
          clear e9
          refine lv_aload_n (pc := 62) hx hb d_A_finish_62 rfl (lv_at hl 1 rfl) ?_
          refine lv_aload_n (pc := 63) hx hb d_A_finish_63 rfl (lv_at hl 0 rfl) ?_
          refine pC_10_fresh_14 (pc := 64) fx hw kw_220 d_A_finish_64 (fun σ_2 e9 H locs hw => ?_)
          replace h := nm_u h e9
          clear e9
          refine lv_aload_n (pc := 67) hx hb d_A_finish_67 rfl (lv_at hl 1 rfl) ?_
          refine gC_10_made (pc := 68) fx hw kw_223 d_A_finish_68 ?_
          exact HR rfl d_A_finish_71 h hw
        · replace h := h.2 c9
          refine pC_10_latest_17 (pc := 59) fx hw kw_218 d_A_finish_59 (fun σ_3 e9 H locs hw => ?_)
          replace h := nm_u h e9
          clear e9
          refine lv_aload_n (pc := 62) hx hb d_A_finish_62 rfl (lv_at hl 1 rfl) ?_
          refine lv_aload_n (pc := 63) hx hb d_A_finish_63 rfl (lv_at hl 0 rfl) ?_
          refine pC_10_fresh_14 (pc := 64) fx hw kw_220 d_A_finish_64 (fun σ_4 e9 H locs hw => ?_)
          replace h := nm_u h e9
          clear e9
          refine lv_aload_n (pc := 67) hx hb d_A_finish_67 rfl (lv_at hl 1 rfl) ?_
          refine gC_10_made (pc := 68) fx hw kw_223 d_A_finish_68 ?_
          exact HR rfl d_A_finish_71 h hw
      · replace h := h.2 c9
        refine lv_astore_n (pc := 53) (lv' := [(2, .ref (a 17)), (0, .ref (a 10)), (1, .ref (a 1))]) hx hb d_A_finish_53 rfl hl (by decide) rfl (fun ls hl => ?_)
        refine lv_aload_n (pc := 54) hx hb d_A_finish_54 rfl (lv_at hl 1 rfl) ?_
        refine lv_aload_n (pc := 55) hx hb d_A_finish_55 rfl (lv_at hl 1 rfl) ?_
        refine gC_10_fresh_s (pc := 56) fx hw kw_220 d_A_finish_56 (fun c9 => ?_) (fun c9 => ?_)
        · replace h := h.1 c9
          refine pC_10_latest_14 (pc := 59) fx hw kw_218 d_A_finish_59 (fun σ_5 e9 H locs hw => ?_)
          replace h := nm_u h e9
          clear e9
          refine lv_aload_n (pc := 62) hx hb d_A_finish_62 rfl (lv_at hl 1 rfl) ?_
          refine lv_aload_n (pc := 63) hx hb d_A_finish_63 rfl (lv_at hl 0 rfl) ?_
          refine pC_10_fresh_17 (pc := 64) fx hw kw_220 d_A_finish_64 (fun σ_6 e9 H locs hw => ?_)
          replace h := nm_u h e9
          clear e9
          refine lv_aload_n (pc := 67) hx hb d_A_finish_67 rfl (lv_at hl 1 rfl) ?_
          refine gC_10_made (pc := 68) fx hw kw_223 d_A_finish_68 ?_
          exact HR rfl d_A_finish_71 h hw
        · replace h := h.2 c9
          refine pC_10_latest_17 (pc := 59) fx hw kw_218 d_A_finish_59 (fun σ_7 e9 H locs hw => ?_)
          replace h := nm_u h e9
          clear e9
          refine lv_aload_n (pc := 62) hx hb d_A_finish_62 rfl (lv_at hl 1 rfl) ?_
          refine lv_aload_n (pc := 63) hx hb d_A_finish_63 rfl (lv_at hl 0 rfl) ?_
          refine pC_10_fresh_17 (pc := 64) fx hw kw_220 d_A_finish_64 (fun σ_8 e9 H locs hw => ?_)
          replace h := nm_u h e9
          clear e9
          refine lv_aload_n (pc := 67) hx hb d_A_finish_67 rfl (lv_at hl 1 rfl) ?_
          refine gC_10_made (pc := 68) fx hw kw_223 d_A_finish_68 ?_
          exact HR rfl d_A_finish_71 h hw
    · replace h := h.2 c9
      refine lv_aload_n (pc := 27) hx hb d_A_finish_27 rfl (lv_at hl 1 rfl) ?_
      refine lv_aload_n (pc := 28) hx hb d_A_finish_28 rfl (lv_at hl 0 rfl) ?_
      refine gC_10_places (pc := 29) fx hw kw_221 d_A_finish_29 ?_
      refine lv_iload_n (pc := 32) hx hb d_A_finish_32 rfl (lv_at hl 2 rfl) ?_
      refine alC_20 (pc := 33) fx hw h.1 d_A_finish_33 ?_
      replace h := h.2
      refine lv_aload_n (pc := 34) hx hb d_A_finish_34 rfl (lv_at hl 0 rfl) ?_
      refine gC_10_words (pc := 35) fx hw kw_222 d_A_finish_35 ?_
      refine lv_iload_n (pc := 38) hx hb d_A_finish_38 rfl (lv_at hl 2 rfl) ?_
      refine alC_21 (pc := 39) fx hw h.1 d_A_finish_39 ?_
      replace h := h.2
      refine rsV (pc := 40) hw (rnV (pc := 40) xtC fx hw (c_M_store h _) cw_A_57 (rcC_1 hw) rfl ⟨Nat.le_of_ble_eq_true rfl, Nat.le_of_ble_eq_true rfl⟩ hl.1 (Nat.le_of_ble_eq_true rfl) d_A_finish_40 ⟨Nat.zero_le _, Nat.zero_le _⟩) (fun σ_9 H locs hw h => ?_)
      obtain ⟨x2_11, e9⟩ : ∃ z : Int32, z = x2 + 1 := ⟨_, rfl⟩
      replace h := nm_u h e9
      refine lv_iinc (pc := 43) (v := x2_11) (lv' := [(2, .int x2_11), (0, .ref (a 10)), (1, .ref (a 1))]) hx hb d_A_finish_43 hl (k := 2) rfl (by rw [e9]; rfl) (by decide) rfl (fun ls hl => ?_)
      clear e9
      refine lv_goto (pc := 46) (tgt := 19) hx hb d_A_finish_46 (by decide) ?_
      exact K19 h hw (lv_sub hl [1, 2, 0] rfl)
set_option maxHeartbeats 4000000 in
set_option maxRecDepth 100000 in
theorem e_A_finish (fx : CallFix p m c b_A_finish 3 s args GW RNA) {post : Int32 → SS → Prop} (HR : RetI p l e r_A_finish s m args below meth c Q D vcl (tyl cA) (wC cA a) (XC ad) A b_A_finish .int post) {σ : SS} {H : Heap} {locs : List Loc} {ls : Array Slot} (h : f_A_finish post σ) (hw : CX D vcl (tyl cA) (wC cA a σ) (XC ad) A s H locs) (hl : lv_has ls 3 [(0, .ref (a 10)), (1, .ref (a 1))]) : W p l e r_A_finish s m args below meth c H locs 0 0 Q (F0 m 0 ls []) := by
  have hx := fx.1
  have hb := fx.2.1
  unfold f_A_finish at h
  refine lv_aload_n (pc := 0) hx hb d_A_finish_0 rfl (lv_at hl 0 rfl) ?_
  refine gC_10_items (pc := 1) fx hw kw_216 d_A_finish_1 ?_
  refine lv_iconst (pc := 4) (v := 0) hx hb d_A_finish_4 (by decide) ?_
  refine pC_11_length (pc := 5) fx hw kw_181 d_A_finish_5 (fun σ_12 e9 H locs hw => ?_)
  replace h := nm_u h e9
  clear e9
  refine lv_aload_n (pc := 8) hx hb d_A_finish_8 rfl (lv_at hl 0 rfl) ?_
  refine gC_10_faultNumber (pc := 9) fx hw kw_230 d_A_finish_9 ?_
  refine lv_if_eq (pc := 12) (tgt := 17) hx hb d_A_finish_12 (by decide) (fun c9 => ?_) (fun c9 => ?_)
  · replace h := h.1 c9
    refine lv_iconst (pc := 17) (v := 0) hx hb d_A_finish_17 (by decide) ?_
    refine lv_istore_n (pc := 18) (lv' := [(2, .int 0), (0, .ref (a 10)), (1, .ref (a 1))]) hx hb d_A_finish_18 rfl hl (by decide) rfl (fun ls hl => ?_)
    obtain ⟨n9, h⟩ := h
    exact c_A_finish_19_11  fx HR n9 h hw (lv_sub hl [1, 2, 0] rfl)
  · replace h := h.2 c9
    refine lv_iconst (pc := 15) (v := (-1)) hx hb d_A_finish_15 (by decide) ?_
    exact HR rfl d_A_finish_16 h hw
end
theorem c_A_finish {l : Launch} {D : va_G} {cA : Nat → ClassId} {a : Nat → Nat} {ad : Nat → Nat → Nat} {σ : SS} {post : Int32 → SS → Prop} (h : f_A_finish post σ) : mI l y_A_finish b_A_finish 3 (some .int) 1 22 D vcl (tyl cA) (wC cA a) (XC ad) σ [.ref (a 10), .ref (a 1)] post := met_I (by decide) (Nat.le_of_ble_eq_true rfl) (fun p e s m args below meth c A Q fx HR H ls hw hl => e_A_finish  fx HR h hw hl)
abbrev r_A_complain : Room := { frames := 0, cells := 0, slots := 0, locals := 0 }
def f_A_complain (post : SS → Prop) (σ : SS) (x1 : Int32) : Prop := br ((σ.1 32) = 0) (nm (sI σ 32 x1) fun σ_1 => nm (sI σ_1 33 (σ_1.1 31)) fun σ_2 => post σ_2) (post σ)
section
variable {p : Program} {l : Launch} {e : Env} {s : State} {m : MethodId} {args : Array Value} {below : List Frame} {meth : Method} {c : Code} {Q : State → Prop} {D : va_G} {cA : Nat → ClassId} {a : Nat → Nat} {ad : Nat → Nat → Nat} {A : Nat → Prop}
set_option maxHeartbeats 4000000 in
set_option maxRecDepth 100000 in
theorem e_A_complain (fx : CallFix p m c b_A_complain 2 s args GW RNA) {post : SS → Prop} (HR : RetV p l e r_A_complain s m args below meth c Q D vcl (tyl cA) (wC cA a) (XC ad) A b_A_complain post) {σ : SS} {x1 : Int32} {H : Heap} {locs : List Loc} {ls : Array Slot} (h : f_A_complain post σ x1) (hw : CX D vcl (tyl cA) (wC cA a σ) (XC ad) A s H locs) (hl : lv_has ls 2 [(0, .ref (a 10)), (1, .int x1)]) : W p l e r_A_complain s m args below meth c H locs 0 0 Q (F0 m 0 ls []) := by
  have hx := fx.1
  have hb := fx.2.1
  unfold f_A_complain at h
  refine lv_aload_n (pc := 0) hx hb d_A_complain_0 rfl (lv_at hl 0 rfl) ?_
  refine gC_10_faultNumber (pc := 1) fx hw kw_230 d_A_complain_1 ?_
  refine lv_if_ne (pc := 4) (tgt := 20) hx hb d_A_complain_4 (by decide) (fun c9 => ?_) (fun c9 => ?_)
  · replace h := h.2 c9
    exact HR d_A_complain_20 h hw
  · replace h := h.1 c9
    refine lv_aload_n (pc := 7) hx hb d_A_complain_7 rfl (lv_at hl 0 rfl) ?_
    refine lv_iload_n (pc := 8) hx hb d_A_complain_8 rfl (lv_at hl 1 rfl) ?_
    refine pC_10_faultNumber (pc := 9) fx hw kw_230 d_A_complain_9 (fun σ_1 e9 H locs hw => ?_)
    replace h := nm_u h e9
    clear e9
    refine lv_aload_n (pc := 12) hx hb d_A_complain_12 rfl (lv_at hl 0 rfl) ?_
    refine lv_aload_n (pc := 13) hx hb d_A_complain_13 rfl (lv_at hl 0 rfl) ?_
    refine gC_10_line (pc := 14) fx hw kw_229 d_A_complain_14 ?_
    refine pC_10_faultLine (pc := 17) fx hw kw_232 d_A_complain_17 (fun σ_2 e9 H locs hw => ?_)
    replace h := nm_u h e9
    clear e9
    exact HR d_A_complain_20 h hw
end
theorem c_A_complain {l : Launch} {D : va_G} {cA : Nat → ClassId} {a : Nat → Nat} {ad : Nat → Nat → Nat} {σ : SS} {post : SS → Prop} {x1 : Int32} (h : f_A_complain post σ x1) : mV l y_A_complain b_A_complain 2 none 0 0 D vcl (tyl cA) (wC cA a) (XC ad) σ [.ref (a 10), .int x1] post := met_V (by decide) (Nat.le_of_ble_eq_true rfl) (fun p e s m args below meth c A Q fx HR H ls hw hl => e_A_complain  fx HR h hw hl)
abbrev r_S_leastOperands : Room := { frames := 0, cells := 0, slots := 0, locals := 0 }
def f_S_leastOperands (post : Int32 → SS → Prop) (σ : SS) (e0 : Nat) : Prop := (e0 < 35) ∧ nm (eS_form e0) fun xs_2 => br (xs_2 = (3 : Int32)) (post 2 σ) (br (xs_2 = (4 : Int32)) (post 2 σ) (br (xs_2 = (5 : Int32)) (post 1 σ) (br (xs_2 = (6 : Int32)) (post 2 σ) (br (xs_2 = (7 : Int32)) (post 1 σ) (br (xs_2 = (8 : Int32)) (post 0 σ) (post 1 σ))))))
section
variable {p : Program} {l : Launch} {e : Env} {s : State} {m : MethodId} {args : Array Value} {below : List Frame} {meth : Method} {c : Code} {Q : State → Prop} {D : va_G} {cA : Nat → ClassId} {a : Nat → Nat} {ad : Nat → Nat → Nat} {A : Nat → Prop}
set_option maxHeartbeats 4000000 in
set_option maxRecDepth 100000 in
theorem e_S_leastOperands (fx : CallFix p m c b_S_leastOperands 1 s args GW "NovaDesk$Statement") {post : Int32 → SS → Prop} (HR : RetI p l e r_S_leastOperands s m args below meth c Q D vcl (tyl cA) (wC cA a) (XC ad) A b_S_leastOperands .int post) {σ : SS} {e0 : Nat} {H : Heap} {locs : List Loc} {ls : Array Slot} (h : f_S_leastOperands post σ e0) (hw : CX D vcl (tyl cA) (wC cA a σ) (XC ad) A s H locs) (hl : lv_has ls 1 [(0, .ref (ad 0 e0))]) : W p l e r_S_leastOperands s m args below meth c H locs 0 0 Q (F0 m 0 ls []) := by
  have hx := fx.1
  have hb := fx.2.1
  unfold f_S_leastOperands at h
  refine lv_aload_n (pc := 0) hx hb d_S_leastOperands_0 rfl (lv_at hl 0 rfl) ?_
  have b_1 := h.1
  replace h := h.2
  refine geS_form (pc := 1) fx hw b_1 kw_1554 d_S_leastOperands_1 ?_
  refine lv_topi (fun xs_2 e9 => ?_)
  replace h := nm_u h e9
  clear e9
  by_cases cq_3 : xs_2 = (3 : Int32)
  · replace h := h.1 cq_3
    refine lv_tableIn (pc := 4) (off := 42) (tgt := 46) hx hb d_S_leastOperands_4 (by rw [cq_3]; decide) (by rw [cq_3]; decide) (by rw [cq_3]; rfl) (by decide) ?_
    refine lv_iconst (pc := 46) (v := 2) hx hb d_S_leastOperands_46 (by decide) ?_
    exact HR rfl d_S_leastOperands_47 h hw
  replace h := h.2 cq_3
  by_cases cq_4 : xs_2 = (4 : Int32)
  · replace h := h.1 cq_4
    refine lv_tableIn (pc := 4) (off := 42) (tgt := 46) hx hb d_S_leastOperands_4 (by rw [cq_4]; decide) (by rw [cq_4]; decide) (by rw [cq_4]; rfl) (by decide) ?_
    refine lv_iconst (pc := 46) (v := 2) hx hb d_S_leastOperands_46 (by decide) ?_
    exact HR rfl d_S_leastOperands_47 h hw
  replace h := h.2 cq_4
  by_cases cq_5 : xs_2 = (5 : Int32)
  · replace h := h.1 cq_5
    refine lv_tableIn (pc := 4) (off := 44) (tgt := 48) hx hb d_S_leastOperands_4 (by rw [cq_5]; decide) (by rw [cq_5]; decide) (by rw [cq_5]; rfl) (by decide) ?_
    refine lv_iconst (pc := 48) (v := 1) hx hb d_S_leastOperands_48 (by decide) ?_
    exact HR rfl d_S_leastOperands_49 h hw
  replace h := h.2 cq_5
  by_cases cq_6 : xs_2 = (6 : Int32)
  · replace h := h.1 cq_6
    refine lv_tableIn (pc := 4) (off := 42) (tgt := 46) hx hb d_S_leastOperands_4 (by rw [cq_6]; decide) (by rw [cq_6]; decide) (by rw [cq_6]; rfl) (by decide) ?_
    refine lv_iconst (pc := 46) (v := 2) hx hb d_S_leastOperands_46 (by decide) ?_
    exact HR rfl d_S_leastOperands_47 h hw
  replace h := h.2 cq_6
  by_cases cq_7 : xs_2 = (7 : Int32)
  · replace h := h.1 cq_7
    refine lv_tableIn (pc := 4) (off := 44) (tgt := 48) hx hb d_S_leastOperands_4 (by rw [cq_7]; decide) (by rw [cq_7]; decide) (by rw [cq_7]; rfl) (by decide) ?_
    refine lv_iconst (pc := 48) (v := 1) hx hb d_S_leastOperands_48 (by decide) ?_
    exact HR rfl d_S_leastOperands_49 h hw
  replace h := h.2 cq_7
  by_cases cq_8 : xs_2 = (8 : Int32)
  · replace h := h.1 cq_8
    refine lv_tableIn (pc := 4) (off := 40) (tgt := 44) hx hb d_S_leastOperands_4 (by rw [cq_8]; decide) (by rw [cq_8]; decide) (by rw [cq_8]; rfl) (by decide) ?_
    refine lv_iconst (pc := 44) (v := 0) hx hb d_S_leastOperands_44 (by decide) ?_
    exact HR rfl d_S_leastOperands_45 h hw
  replace h := h.2 cq_8
  refine lv_tableOut (pc := 4) (tgt := 48) hx hb d_S_leastOperands_4 (by have := lv_neT cq_3 (a := 3) (by decide); have := lv_neT cq_4 (a := 4) (by decide); have := lv_neT cq_5 (a := 5) (by decide); have := lv_neT cq_6 (a := 6) (by decide); have := lv_neT cq_7 (a := 7) (by decide); have := lv_neT cq_8 (a := 8) (by decide); omega) (by decide) ?_
  refine lv_iconst (pc := 48) (v := 1) hx hb d_S_leastOperands_48 (by decide) ?_
  exact HR rfl d_S_leastOperands_49 h hw
end
theorem c_S_leastOperands {l : Launch} {D : va_G} {cA : Nat → ClassId} {a : Nat → Nat} {ad : Nat → Nat → Nat} {σ : SS} {post : Int32 → SS → Prop} {e0 : Nat} (h : f_S_leastOperands post σ e0) : mI l y_S_leastOperands b_S_leastOperands 1 (some .int) 0 0 D vcl (tyl cA) (wC cA a) (XC ad) σ [.ref (ad 0 e0)] post := met_I (by decide) (Nat.le_of_ble_eq_true rfl) (fun p e s m args below meth c A Q fx HR H ls hw hl => e_S_leastOperands  fx HR h hw hl)
abbrev r_A_look : Room := { frames := 1, cells := 0, slots := 0, locals := 21 }
def f_A_look (post : Int32 → SS → Prop) (σ : SS) : Prop := f_I_kindAt (fun r_2 σ_1 => br (r_2 = 1) (f_A_complain (fun σ_3 => post r_2 σ_3) σ_1 1) (post r_2 σ_1)) σ (σ.1 29)
section
variable {p : Program} {l : Launch} {e : Env} {s : State} {m : MethodId} {args : Array Value} {below : List Frame} {meth : Method} {c : Code} {Q : State → Prop} {D : va_G} {cA : Nat → ClassId} {a : Nat → Nat} {ad : Nat → Nat → Nat} {A : Nat → Prop}
set_option maxHeartbeats 4000000 in
set_option maxRecDepth 100000 in
theorem e_A_look (fx : CallFix p m c b_A_look 2 s args GW RNA) {post : Int32 → SS → Prop} (HR : RetI p l e r_A_look s m args below meth c Q D vcl (tyl cA) (wC cA a) (XC ad) A b_A_look .int post) {σ : SS} {H : Heap} {locs : List Loc} {ls : Array Slot} (h : f_A_look post σ) (hw : CX D vcl (tyl cA) (wC cA a σ) (XC ad) A s H locs) (hl : lv_has ls 2 [(0, .ref (a 10))]) : W p l e r_A_look s m args below meth c H locs 0 0 Q (F0 m 0 ls []) := by
  have hx := fx.1
  have hb := fx.2.1
  unfold f_A_look at h
  refine lv_aload_n (pc := 0) hx hb d_A_look_0 rfl (lv_at hl 0 rfl) ?_
  refine gC_10_items (pc := 1) fx hw kw_216 d_A_look_1 ?_
  refine lv_aload_n (pc := 4) hx hb d_A_look_4 rfl (lv_at hl 0 rfl) ?_
  refine gC_10_at (pc := 5) fx hw kw_227 d_A_look_5 ?_
  refine rsI (pc := 8) hw (rnV (pc := 8) xtC fx hw (c_I_kindAt h _) cw_A_72 (rcC_11 hw) rfl ⟨Nat.le_of_ble_eq_true rfl, Nat.le_of_ble_eq_true rfl⟩ hl.1 (Nat.le_of_ble_eq_true rfl) d_A_look_8 ⟨Nat.zero_le _, Nat.zero_le _⟩) (fun r_2 σ_1 H locs hw h => ?_)
  refine lv_istore_n (pc := 11) (lv' := [(1, .int r_2), (0, .ref (a 10))]) hx hb d_A_look_11 rfl hl (by decide) rfl (fun ls hl => ?_)
  refine lv_iload_n (pc := 12) hx hb d_A_look_12 rfl (lv_at hl 0 rfl) ?_
  refine lv_iconst (pc := 13) (v := 1) hx hb d_A_look_13 (by decide) ?_
  refine lv_icmp_ne (pc := 14) (tgt := 22) hx hb d_A_look_14 (by decide) (fun c9 => ?_) (fun c9 => ?_)
  · replace h := h.2 c9
    refine lv_iload_n (pc := 22) hx hb d_A_look_22 rfl (lv_at hl 0 rfl) ?_
    exact HR rfl d_A_look_23 h hw
  · replace h := h.1 c9
    refine lv_aload_n (pc := 17) hx hb d_A_look_17 rfl (lv_at hl 1 rfl) ?_
    refine lv_iconst (pc := 18) (v := 1) hx hb d_A_look_18 (by decide) ?_
    refine rsV (pc := 19) hw (rnV (pc := 19) xtC fx hw (c_A_complain h _) cw_A_90 (rcC_10 hw) rfl ⟨Nat.le_of_ble_eq_true rfl, Nat.le_of_ble_eq_true rfl⟩ hl.1 (Nat.le_of_ble_eq_true rfl) d_A_look_19 ⟨Nat.zero_le _, Nat.zero_le _⟩) (fun σ_3 H locs hw h => ?_)
    refine lv_iload_n (pc := 22) hx hb d_A_look_22 rfl (lv_at hl 0 rfl) ?_
    exact HR rfl d_A_look_23 h hw
end
theorem c_A_look {l : Launch} {D : va_G} {cA : Nat → ClassId} {a : Nat → Nat} {ad : Nat → Nat → Nat} {σ : SS} {post : Int32 → SS → Prop} (h : f_A_look post σ) : mI l y_A_look b_A_look 2 (some .int) 1 21 D vcl (tyl cA) (wC cA a) (XC ad) σ [.ref (a 10)] post := met_I (by decide) (Nat.le_of_ble_eq_true rfl) (fun p e s m args below meth c A Q fx HR H ls hw hl => e_A_look  fx HR h hw hl)
abbrev r_A_takes : Room := { frames := 2, cells := 0, slots := 0, locals := 42 }
def f_A_takes (post : Int32 → SS → Prop) (σ : SS) (x1 : Int32) : Prop := f_A_look (fun r_2 σ_1 => br (r_2 = x1) (nm (sI σ_1 29 ((σ_1.1 29) + 1)) fun σ_3 => post 1 σ_3) (post 0 σ_1)) σ
section
variable {p : Program} {l : Launch} {e : Env} {s : State} {m : MethodId} {args : Array Value} {below : List Frame} {meth : Method} {c : Code} {Q : State → Prop} {D : va_G} {cA : Nat → ClassId} {a : Nat → Nat} {ad : Nat → Nat → Nat} {A : Nat → Prop}
set_option maxHeartbeats 4000000 in
set_option maxRecDepth 100000 in
theorem e_A_takes (fx : CallFix p m c b_A_takes 2 s args GW RNA) {post : Int32 → SS → Prop} (HR : RetI p l e r_A_takes s m args below meth c Q D vcl (tyl cA) (wC cA a) (XC ad) A b_A_takes .boolean (fun r σ => bz r ∧ post r σ)) {σ : SS} {x1 : Int32} {H : Heap} {locs : List Loc} {ls : Array Slot} (h : f_A_takes post σ x1) (hw : CX D vcl (tyl cA) (wC cA a σ) (XC ad) A s H locs) (hl : lv_has ls 2 [(0, .ref (a 10)), (1, .int x1)]) : W p l e r_A_takes s m args below meth c H locs 0 0 Q (F0 m 0 ls []) := by
  have hx := fx.1
  have hb := fx.2.1
  unfold f_A_takes at h
  refine lv_aload_n (pc := 0) hx hb d_A_takes_0 rfl (lv_at hl 0 rfl) ?_
  refine rsI (pc := 1) hw (rnV (pc := 1) xtC fx hw (c_A_look h _) cw_A_86 (rcC_10 hw) rfl ⟨Nat.le_of_ble_eq_true rfl, Nat.le_of_ble_eq_true rfl⟩ hl.1 (Nat.le_of_ble_eq_true rfl) d_A_takes_1 ⟨Nat.zero_le _, Nat.zero_le _⟩) (fun r_2 σ_1 H locs hw h => ?_)
  refine lv_iload_n (pc := 4) hx hb d_A_takes_4 rfl (lv_at hl 1 rfl) ?_
  refine lv_icmp_eq (pc := 5) (tgt := 10) hx hb d_A_takes_5 (by decide) (fun c9 => ?_) (fun c9 => ?_)
  · replace h := h.1 c9
    refine lv_aload_n (pc := 10) hx hb d_A_takes_10 rfl (lv_at hl 0 rfl) ?_
    refine lv_dup (pc := 11) hx hb d_A_takes_11 rfl ?_
    refine gC_10_at (pc := 12) fx hw kw_227 d_A_takes_12 ?_
    refine lv_iconst (pc := 15) (v := 1) hx hb d_A_takes_15 (by decide) ?_
    refine lv_iadd (pc := 16) hx hb d_A_takes_16 ?_
    refine pC_10_at (pc := 17) fx hw kw_227 d_A_takes_17 (fun σ_3 e9 H locs hw => ?_)
    replace h := nm_u h e9
    clear e9
    refine lv_iconst (pc := 20) (v := 1) hx hb d_A_takes_20 (by decide) ?_
    exact HR (bz_n bz_1) d_A_takes_21 ⟨bz_1, h⟩ hw
  · replace h := h.2 c9
    refine lv_iconst (pc := 8) (v := 0) hx hb d_A_takes_8 (by decide) ?_
    exact HR (bz_n bz_0) d_A_takes_9 ⟨bz_0, h⟩ hw
end
theorem c_A_takes {l : Launch} {D : va_G} {cA : Nat → ClassId} {a : Nat → Nat} {ad : Nat → Nat → Nat} {σ : SS} {post : Int32 → SS → Prop} {x1 : Int32} (h : f_A_takes post σ x1) : mI l y_A_takes b_A_takes 2 (some .boolean) 2 42 D vcl (tyl cA) (wC cA a) (XC ad) σ [.ref (a 10), .int x1] (fun r σ => bz r ∧ post r σ) := met_I (by decide) (Nat.le_of_ble_eq_true rfl) (fun p e s m args below meth c A Q fx HR H ls hw hl => e_A_takes  fx HR h hw hl)
abbrev r_G_numberOf : Room := { frames := 0, cells := 0, slots := 0, locals := 0 }
def f_G_numberOf_2 (post : Int32 → SS → Prop) : Nat → SS → Int64 → Int32 → Prop
  | 0, _, _, _ => False
  | n + 1, σ, x0, x2 => br (11 ≤ x2) (post (-1) σ) (vp_in x2 11 ∧ br ((lg_cmp (eG_key (x2.toNatClampNeg)) x0) = 0) (vp_in x2 11 ∧ post (eG_number (x2.toNatClampNeg)) σ) (nm (x2 + 1) fun x2_2 => f_G_numberOf_2 post n σ x0 x2_2))
def f_G_numberOf (post : Int32 → SS → Prop) (σ : SS) (x0 : Int64) : Prop := ∃ n9, f_G_numberOf_2 post n9 σ x0 0
section
variable {p : Program} {l : Launch} {e : Env} {s : State} {m : MethodId} {args : Array Value} {below : List Frame} {meth : Method} {c : Code} {Q : State → Prop} {D : va_G} {cA : Nat → ClassId} {a : Nat → Nat} {ad : Nat → Nat → Nat} {A : Nat → Prop}
set_option maxHeartbeats 4000000 in
set_option maxRecDepth 100000 in
theorem c_G_numberOf_2 (fx : CallFix p m c b_G_numberOf 3 s args GW "NovaDesk$Given") {post : Int32 → SS → Prop} (HR : RetI p l e r_G_numberOf s m args below meth c Q D vcl (tyl cA) (wC cA a) (XC ad) A b_G_numberOf .int post) : ∀ (n : Nat) {σ : SS} {x0 : Int64} {x2 : Int32} {H : Heap} {locs : List Loc} {ls : Array Slot}, f_G_numberOf_2 post n σ x0 x2 → CX D vcl (tyl cA) (wC cA a σ) (XC ad) A s H locs → lv_has ls 3 [(0, .long x0), (2, .int x2)] → W p l e r_G_numberOf s m args below meth c H locs 0 0 Q (F0 m 2 ls []) := by
  have hx := fx.1
  have hb := fx.2.1
  intro n
  induction n with
  | zero => intro σ x0 x2 H locs ls h; exact h.elim
  | succ n ih =>
    intro σ x0 x2 H locs ls h hw hl
    have K2 := @ih
    unfold f_G_numberOf_2 at h
    refine lv_iload_n (pc := 2) hx hb d_G_numberOf_2 rfl (lv_at hl 1 rfl) ?_
    refine gzG_ALL (pc := 3) fx hw kw_526 d_G_numberOf_3 ?_
    refine anG (pc := 6) fx hw d_G_numberOf_6 ?_
    refine lv_icmp_ge (pc := 7) (tgt := 38) hx hb d_G_numberOf_7 (by decide) (fun c9 => ?_) (fun c9 => ?_)
    · replace h := h.1 c9
      refine lv_iconst (pc := 38) (v := (-1)) hx hb d_G_numberOf_38 (by decide) ?_
      exact HR rfl d_G_numberOf_39 h hw
    · replace h := h.2 c9
      refine gzG_ALL (pc := 10) fx hw kw_526 d_G_numberOf_10 ?_
      refine lv_iload_n (pc := 13) hx hb d_G_numberOf_13 rfl (lv_at hl 1 rfl) ?_
      have b9 := h.1
      refine aaG (pc := 14) fx hw b9 d_G_numberOf_14 ?_
      replace h := h.2
      have b_1 := Nat.not_le.mp fun q => b9 (Or.inr q)
      refine geG_key (pc := 15) fx hw b_1 kw_1552 d_G_numberOf_15 ?_
      refine lv_lload_n (pc := 18) hx hb d_G_numberOf_18 rfl (lv_at hl 0 rfl) ?_
      refine W.lcmp (pc := 19) hx hb d_G_numberOf_19 ?_
      refine lv_if_ne (pc := 20) (tgt := 32) hx hb d_G_numberOf_20 (by decide) (fun c9 => ?_) (fun c9 => ?_)
      · replace h := h.2 c9
        obtain ⟨x2_2, e9⟩ : ∃ z : Int32, z = x2 + 1 := ⟨_, rfl⟩
        replace h := nm_u h e9
        refine lv_iinc (pc := 32) (v := x2_2) (lv' := [(2, .int x2_2), (0, .long x0)]) hx hb d_G_numberOf_32 hl (k := 1) rfl (by rw [e9]; rfl) (by decide) rfl (fun ls hl => ?_)
        clear e9
        refine lv_goto (pc := 35) (tgt := 2) hx hb d_G_numberOf_35 (by decide) ?_
        exact K2 h hw (lv_sub hl [1, 0] rfl)
      · replace h := h.1 c9
        refine gzG_ALL (pc := 23) fx hw kw_526 d_G_numberOf_23 ?_
        refine lv_iload_n (pc := 26) hx hb d_G_numberOf_26 rfl (lv_at hl 1 rfl) ?_
        have b9 := h.1
        refine aaG (pc := 27) fx hw b9 d_G_numberOf_27 ?_
        replace h := h.2
        have b_3 := Nat.not_le.mp fun q => b9 (Or.inr q)
        refine geG_number (pc := 28) fx hw b_3 kw_1553 d_G_numberOf_28 ?_
        exact HR rfl d_G_numberOf_31 h hw
set_option maxHeartbeats 4000000 in
set_option maxRecDepth 100000 in
theorem e_G_numberOf (fx : CallFix p m c b_G_numberOf 3 s args GW "NovaDesk$Given") {post : Int32 → SS → Prop} (HR : RetI p l e r_G_numberOf s m args below meth c Q D vcl (tyl cA) (wC cA a) (XC ad) A b_G_numberOf .int post) {σ : SS} {x0 : Int64} {H : Heap} {locs : List Loc} {ls : Array Slot} (h : f_G_numberOf post σ x0) (hw : CX D vcl (tyl cA) (wC cA a σ) (XC ad) A s H locs) (hl : lv_has ls 3 [(0, .long x0)]) : W p l e r_G_numberOf s m args below meth c H locs 0 0 Q (F0 m 0 ls []) := by
  have hx := fx.1
  have hb := fx.2.1
  unfold f_G_numberOf at h
  refine lv_iconst (pc := 0) (v := 0) hx hb d_G_numberOf_0 (by decide) ?_
  refine lv_istore_n (pc := 1) (lv' := [(2, .int 0), (0, .long x0)]) hx hb d_G_numberOf_1 rfl hl (by decide) rfl (fun ls hl => ?_)
  obtain ⟨n9, h⟩ := h
  exact c_G_numberOf_2  fx HR n9 h hw (lv_sub hl [1, 0] rfl)
end
theorem c_G_numberOf {l : Launch} {D : va_G} {cA : Nat → ClassId} {a : Nat → Nat} {ad : Nat → Nat → Nat} {σ : SS} {post : Int32 → SS → Prop} {x0 : Int64} (h : f_G_numberOf post σ x0) : mI l y_G_numberOf b_G_numberOf 3 (some .int) 0 0 D vcl (tyl cA) (wC cA a) (XC ad) σ [.long x0] post := met_I (by decide) (Nat.le_of_ble_eq_true rfl) (fun p e s m args below meth c A Q fx HR H ls hw hl => e_G_numberOf  fx HR h hw hl)
abbrev r_A_numberOf : Room := { frames := 1, cells := 0, slots := 0, locals := 23 }
def f_A_numberOf (post : Int32 → SS → Prop) (σ : SS) (x1 : Int64) : Prop := br ((lg_cmp x1 3314649325744685056) = 0) (post (σ.1 30) σ) (f_G_numberOf (fun r_2 σ_1 => br (r_2 = (-1)) (br (σ_1.1 25 = 0) (f_L_find_14 (fun r_4 σ_3 => post r_4 σ_3) σ_1 x1) (f_L_find_17 (fun r_6 σ_5 => post r_6 σ_5) σ_1 x1)) (post r_2 σ_1)) σ x1)
section
variable {p : Program} {l : Launch} {e : Env} {s : State} {m : MethodId} {args : Array Value} {below : List Frame} {meth : Method} {c : Code} {Q : State → Prop} {D : va_G} {cA : Nat → ClassId} {a : Nat → Nat} {ad : Nat → Nat → Nat} {A : Nat → Prop}
set_option maxHeartbeats 4000000 in
set_option maxRecDepth 100000 in
theorem e_A_numberOf (fx : CallFix p m c b_A_numberOf 4 s args GW RNA) {post : Int32 → SS → Prop} (HR : RetI p l e r_A_numberOf s m args below meth c Q D vcl (tyl cA) (wC cA a) (XC ad) A b_A_numberOf .int post) {σ : SS} {x1 : Int64} {H : Heap} {locs : List Loc} {ls : Array Slot} (h : f_A_numberOf post σ x1) (hw : CX D vcl (tyl cA) (wC cA a σ) (XC ad) A s H locs) (hl : lv_has ls 4 [(0, .ref (a 10)), (1, .long x1)]) : W p l e r_A_numberOf s m args below meth c H locs 0 0 Q (F0 m 0 ls []) := by
  have hx := fx.1
  have hb := fx.2.1
  unfold f_A_numberOf at h
  refine lv_lload_n (pc := 0) hx hb d_A_numberOf_0 rfl (lv_at hl 1 rfl) ?_
  refine lv_ldc2 (pc := 1) (v := 3314649325744685056) hx hb fx.2.2.2.1 (fx.2.2.2.2 _ kw_522) d_A_numberOf_1 ?_
  refine W.lcmp (pc := 4) hx hb d_A_numberOf_4 ?_
  refine lv_if_ne (pc := 5) (tgt := 13) hx hb d_A_numberOf_5 (by decide) (fun c9 => ?_) (fun c9 => ?_)
  · replace h := h.2 c9
    refine lv_lload_n (pc := 13) hx hb d_A_numberOf_13 rfl (lv_at hl 1 rfl) ?_
    refine rsI (pc := 14) hw (rnS (pc := 14) xtC fx hw (c_G_numberOf h _) cw_A_140 rfl ⟨Nat.le_of_ble_eq_true rfl, Nat.le_of_ble_eq_true rfl⟩ hl.1 (Nat.le_of_ble_eq_true rfl) d_A_numberOf_14 ⟨Nat.zero_le _, Nat.zero_le _⟩) (fun r_2 σ_1 H locs hw h => ?_)
    refine lv_istore_n (pc := 17) (lv' := [(3, .int r_2), (0, .ref (a 10)), (1, .long x1)]) hx hb d_A_numberOf_17 rfl hl (by decide) rfl (fun ls hl => ?_)
    refine lv_iload_n (pc := 18) hx hb d_A_numberOf_18 rfl (lv_at hl 0 rfl) ?_
    refine lv_iconst (pc := 19) (v := (-1)) hx hb d_A_numberOf_19 (by decide) ?_
    refine lv_icmp_eq (pc := 20) (tgt := 27) hx hb d_A_numberOf_20 (by decide) (fun c9 => ?_) (fun c9 => ?_)
    · replace h := h.1 c9
      refine lv_aload_n (pc := 27) hx hb d_A_numberOf_27 rfl (lv_at hl 1 rfl) ?_
      refine gC_10_fresh_s (pc := 28) fx hw kw_220 d_A_numberOf_28 (fun c9 => ?_) (fun c9 => ?_)
      · replace h := h.1 c9
        refine lv_lload_n (pc := 31) hx hb d_A_numberOf_31 rfl (lv_at hl 2 rfl) ?_
        refine rsI (pc := 32) hw (rnV (pc := 32) xtC fx hw (c_L_find_14 h _) cw_A_146 (rcC_14 hw) rfl ⟨Nat.le_of_ble_eq_true rfl, Nat.le_of_ble_eq_true rfl⟩ hl.1 (Nat.le_of_ble_eq_true rfl) d_A_numberOf_32 ⟨Nat.zero_le _, Nat.zero_le _⟩) (fun r_4 σ_3 H locs hw h => ?_)
        exact HR rfl d_A_numberOf_35 h hw
      · replace h := h.2 c9
        refine lv_lload_n (pc := 31) hx hb d_A_numberOf_31 rfl (lv_at hl 2 rfl) ?_
        refine rsI (pc := 32) hw (rnV (pc := 32) xtC fx hw (c_L_find_17 h _) cw_A_146 (rcC_17 hw) rfl ⟨Nat.le_of_ble_eq_true rfl, Nat.le_of_ble_eq_true rfl⟩ hl.1 (Nat.le_of_ble_eq_true rfl) d_A_numberOf_32 ⟨Nat.zero_le _, Nat.zero_le _⟩) (fun r_6 σ_5 H locs hw h => ?_)
        exact HR rfl d_A_numberOf_35 h hw
    · replace h := h.2 c9
      refine lv_iload_n (pc := 23) hx hb d_A_numberOf_23 rfl (lv_at hl 0 rfl) ?_
      refine lv_goto (pc := 24) (tgt := 35) hx hb d_A_numberOf_24 (by decide) ?_
      exact HR rfl d_A_numberOf_35 h hw
  · replace h := h.1 c9
    refine lv_aload_n (pc := 8) hx hb d_A_numberOf_8 rfl (lv_at hl 0 rfl) ?_
    refine gC_10_location (pc := 9) fx hw kw_228 d_A_numberOf_9 ?_
    exact HR rfl d_A_numberOf_12 h hw
end
theorem c_A_numberOf {l : Launch} {D : va_G} {cA : Nat → ClassId} {a : Nat → Nat} {ad : Nat → Nat → Nat} {σ : SS} {post : Int32 → SS → Prop} {x1 : Int64} (h : f_A_numberOf post σ x1) : mI l y_A_numberOf b_A_numberOf 4 (some .int) 1 23 D vcl (tyl cA) (wC cA a) (XC ad) σ [.ref (a 10), .long x1] post := met_I (by decide) (Nat.le_of_ble_eq_true rfl) (fun p e s m args below meth c A Q fx HR H ls hw hl => e_A_numberOf  fx HR h hw hl)
abbrev r_A_readTerm : Room := { frames := 2, cells := 0, slots := 0, locals := 46 }
def f_A_readTerm_67 (post : Int32 → SS → Prop) (σ : SS) (x2 : Int32) : Prop := nm (sI σ 29 ((σ.1 29) + 1)) fun σ_1 => post x2 σ_1
def f_A_readTerm_56 (post : Int32 → SS → Prop) (σ : SS) (s0 : Int32) : Prop := br (s0 = (-1)) (f_A_complain (fun σ_2 => f_A_readTerm_67 post σ_2 s0) σ 3) (f_A_readTerm_67 post σ s0)
def f_A_readTerm_22 (post : Int32 → SS → Prop) (σ : SS) (x1 : Int32) : Prop := br (x1 = 2) (f_I_nameAt (fun r_7 σ_6 => f_A_numberOf (fun r_9 σ_8 => f_A_readTerm_56 post σ_8 r_9) σ_6 r_7) σ (σ.1 29)) (f_I_numberAt (fun r_5 σ_4 => f_A_readTerm_56 post σ_4 r_5) σ (σ.1 29))
def f_A_readTerm (post : Int32 → SS → Prop) (σ : SS) : Prop := f_A_look (fun r_11 σ_10 => br (r_11 = 2) (f_A_readTerm_22 post σ_10 r_11) (br (r_11 = 3) (f_A_readTerm_22 post σ_10 r_11) (f_A_complain (fun σ_12 => post 0 σ_12) σ_10 2))) σ
section
variable {p : Program} {l : Launch} {e : Env} {s : State} {m : MethodId} {args : Array Value} {below : List Frame} {meth : Method} {c : Code} {Q : State → Prop} {D : va_G} {cA : Nat → ClassId} {a : Nat → Nat} {ad : Nat → Nat → Nat} {A : Nat → Prop}
set_option maxHeartbeats 4000000 in
set_option maxRecDepth 100000 in
theorem c_A_readTerm_67 (fx : CallFix p m c b_A_readTerm 3 s args GW RNA) {post : Int32 → SS → Prop} (HR : RetI p l e r_A_readTerm s m args below meth c Q D vcl (tyl cA) (wC cA a) (XC ad) A b_A_readTerm .int post) {σ : SS} {x2 : Int32} {H : Heap} {locs : List Loc} {ls : Array Slot} (h : f_A_readTerm_67 post σ x2) (hw : CX D vcl (tyl cA) (wC cA a σ) (XC ad) A s H locs) (hl : lv_has ls 3 [(0, .ref (a 10)), (2, .int x2)]) : W p l e r_A_readTerm s m args below meth c H locs 0 0 Q (F0 m 67 ls []) := by
  have hx := fx.1
  have hb := fx.2.1
  unfold f_A_readTerm_67 at h
  refine lv_aload_n (pc := 67) hx hb d_A_readTerm_67 rfl (lv_at hl 0 rfl) ?_
  refine lv_dup (pc := 68) hx hb d_A_readTerm_68 rfl ?_
  refine gC_10_at (pc := 69) fx hw kw_227 d_A_readTerm_69 ?_
  refine lv_iconst (pc := 72) (v := 1) hx hb d_A_readTerm_72 (by decide) ?_
  refine lv_iadd (pc := 73) hx hb d_A_readTerm_73 ?_
  refine pC_10_at (pc := 74) fx hw kw_227 d_A_readTerm_74 (fun σ_1 e9 H locs hw => ?_)
  replace h := nm_u h e9
  clear e9
  refine lv_iload_n (pc := 77) hx hb d_A_readTerm_77 rfl (lv_at hl 1 rfl) ?_
  exact HR rfl d_A_readTerm_78 h hw
set_option maxHeartbeats 4000000 in
set_option maxRecDepth 100000 in
theorem c_A_readTerm_56 (fx : CallFix p m c b_A_readTerm 3 s args GW RNA) {post : Int32 → SS → Prop} (HR : RetI p l e r_A_readTerm s m args below meth c Q D vcl (tyl cA) (wC cA a) (XC ad) A b_A_readTerm .int post) {σ : SS} {s0 : Int32} {H : Heap} {locs : List Loc} {ls : Array Slot} (h : f_A_readTerm_56 post σ s0) (hw : CX D vcl (tyl cA) (wC cA a σ) (XC ad) A s H locs) (hl : lv_has ls 3 [(0, .ref (a 10))]) : W p l e r_A_readTerm s m args below meth c H locs 0 0 Q (F0 m 56 ls [.int s0]) := by
  have hx := fx.1
  have hb := fx.2.1
  unfold f_A_readTerm_56 at h
  refine lv_istore_n (pc := 56) (lv' := [(2, .int s0), (0, .ref (a 10))]) hx hb d_A_readTerm_56 rfl hl (by decide) rfl (fun ls hl => ?_)
  refine lv_iload_n (pc := 57) hx hb d_A_readTerm_57 rfl (lv_at hl 0 rfl) ?_
  refine lv_iconst (pc := 58) (v := (-1)) hx hb d_A_readTerm_58 (by decide) ?_
  refine lv_icmp_ne (pc := 59) (tgt := 67) hx hb d_A_readTerm_59 (by decide) (fun c9 => ?_) (fun c9 => ?_)
  · replace h := h.2 c9
    exact c_A_readTerm_67  fx HR h hw (lv_sub hl [1, 0] rfl)
  · replace h := h.1 c9
    refine lv_aload_n (pc := 62) hx hb d_A_readTerm_62 rfl (lv_at hl 1 rfl) ?_
    refine lv_iconst (pc := 63) (v := 3) hx hb d_A_readTerm_63 (by decide) ?_
    refine rsV (pc := 64) hw (rnV (pc := 64) xtC fx hw (c_A_complain h _) cw_A_90 (rcC_10 hw) rfl ⟨Nat.le_of_ble_eq_true rfl, Nat.le_of_ble_eq_true rfl⟩ hl.1 (Nat.le_of_ble_eq_true rfl) d_A_readTerm_64 ⟨Nat.zero_le _, Nat.zero_le _⟩) (fun σ_2 H locs hw h => ?_)
    exact c_A_readTerm_67  fx HR h hw (lv_sub hl [1, 0] rfl)
set_option maxHeartbeats 4000000 in
set_option maxRecDepth 100000 in
theorem c_A_readTerm_22 (fx : CallFix p m c b_A_readTerm 3 s args GW RNA) {post : Int32 → SS → Prop} (HR : RetI p l e r_A_readTerm s m args below meth c Q D vcl (tyl cA) (wC cA a) (XC ad) A b_A_readTerm .int post) {σ : SS} {x1 : Int32} {H : Heap} {locs : List Loc} {ls : Array Slot} (h : f_A_readTerm_22 post σ x1) (hw : CX D vcl (tyl cA) (wC cA a σ) (XC ad) A s H locs) (hl : lv_has ls 3 [(0, .ref (a 10)), (1, .int x1)]) : W p l e r_A_readTerm s m args below meth c H locs 0 0 Q (F0 m 22 ls []) := by
  have hx := fx.1
  have hb := fx.2.1
  unfold f_A_readTerm_22 at h
  refine lv_iload_n (pc := 22) hx hb d_A_readTerm_22 rfl (lv_at hl 1 rfl) ?_
  refine lv_iconst (pc := 23) (v := 2) hx hb d_A_readTerm_23 (by decide) ?_
  refine lv_icmp_ne (pc := 24) (tgt := 45) hx hb d_A_readTerm_24 (by decide) (fun c9 => ?_) (fun c9 => ?_)
  · replace h := h.2 c9
    refine lv_aload_n (pc := 45) hx hb d_A_readTerm_45 rfl (lv_at hl 0 rfl) ?_
    refine gC_10_items (pc := 46) fx hw kw_216 d_A_readTerm_46 ?_
    refine lv_aload_n (pc := 49) hx hb d_A_readTerm_49 rfl (lv_at hl 0 rfl) ?_
    refine gC_10_at (pc := 50) fx hw kw_227 d_A_readTerm_50 ?_
    refine rsI (pc := 53) hw (rnV (pc := 53) xtC fx hw (c_I_numberAt h _) cw_A_186 (rcC_11 hw) rfl ⟨Nat.le_of_ble_eq_true rfl, Nat.le_of_ble_eq_true rfl⟩ hl.1 (Nat.le_of_ble_eq_true rfl) d_A_readTerm_53 ⟨Nat.zero_le _, Nat.zero_le _⟩) (fun r_5 σ_4 H locs hw h => ?_)
    exact c_A_readTerm_56  fx HR h hw (lv_sub hl [0] rfl)
  · replace h := h.1 c9
    refine lv_aload_n (pc := 27) hx hb d_A_readTerm_27 rfl (lv_at hl 0 rfl) ?_
    refine lv_aload_n (pc := 28) hx hb d_A_readTerm_28 rfl (lv_at hl 0 rfl) ?_
    refine gC_10_items (pc := 29) fx hw kw_216 d_A_readTerm_29 ?_
    refine lv_aload_n (pc := 32) hx hb d_A_readTerm_32 rfl (lv_at hl 0 rfl) ?_
    refine gC_10_at (pc := 33) fx hw kw_227 d_A_readTerm_33 ?_
    refine rsJ (pc := 36) hw (rnV (pc := 36) xtC fx hw (c_I_nameAt h _) cw_A_94 (rcC_11 hw) rfl ⟨Nat.le_of_ble_eq_true rfl, Nat.le_of_ble_eq_true rfl⟩ hl.1 (Nat.le_of_ble_eq_true rfl) d_A_readTerm_36 ⟨Nat.zero_le _, Nat.zero_le _⟩) (fun r_7 σ_6 H locs hw h => ?_)
    refine rsI (pc := 39) hw (rnV (pc := 39) xtC fx hw (c_A_numberOf h _) cw_A_185 (rcC_10 hw) rfl ⟨Nat.le_of_ble_eq_true rfl, Nat.le_of_ble_eq_true rfl⟩ hl.1 (Nat.le_of_ble_eq_true rfl) d_A_readTerm_39 ⟨Nat.zero_le _, Nat.zero_le _⟩) (fun r_9 σ_8 H locs hw h => ?_)
    refine lv_goto (pc := 42) (tgt := 56) hx hb d_A_readTerm_42 (by decide) ?_
    exact c_A_readTerm_56  fx HR h hw (lv_sub hl [0] rfl)
set_option maxHeartbeats 4000000 in
set_option maxRecDepth 100000 in
theorem e_A_readTerm (fx : CallFix p m c b_A_readTerm 3 s args GW RNA) {post : Int32 → SS → Prop} (HR : RetI p l e r_A_readTerm s m args below meth c Q D vcl (tyl cA) (wC cA a) (XC ad) A b_A_readTerm .int post) {σ : SS} {H : Heap} {locs : List Loc} {ls : Array Slot} (h : f_A_readTerm post σ) (hw : CX D vcl (tyl cA) (wC cA a σ) (XC ad) A s H locs) (hl : lv_has ls 3 [(0, .ref (a 10))]) : W p l e r_A_readTerm s m args below meth c H locs 0 0 Q (F0 m 0 ls []) := by
  have hx := fx.1
  have hb := fx.2.1
  unfold f_A_readTerm at h
  refine lv_aload_n (pc := 0) hx hb d_A_readTerm_0 rfl (lv_at hl 0 rfl) ?_
  refine rsI (pc := 1) hw (rnV (pc := 1) xtC fx hw (c_A_look h _) cw_A_86 (rcC_10 hw) rfl ⟨Nat.le_of_ble_eq_true rfl, Nat.le_of_ble_eq_true rfl⟩ hl.1 (Nat.le_of_ble_eq_true rfl) d_A_readTerm_1 ⟨Nat.zero_le _, Nat.zero_le _⟩) (fun r_11 σ_10 H locs hw h => ?_)
  refine lv_istore_n (pc := 4) (lv' := [(1, .int r_11), (0, .ref (a 10))]) hx hb d_A_readTerm_4 rfl hl (by decide) rfl (fun ls hl => ?_)
  refine lv_iload_n (pc := 5) hx hb d_A_readTerm_5 rfl (lv_at hl 0 rfl) ?_
  refine lv_iconst (pc := 6) (v := 2) hx hb d_A_readTerm_6 (by decide) ?_
  refine lv_icmp_eq (pc := 7) (tgt := 22) hx hb d_A_readTerm_7 (by decide) (fun c9 => ?_) (fun c9 => ?_)
  · replace h := h.1 c9
    exact c_A_readTerm_22  fx HR h hw (lv_sub hl [1, 0] rfl)
  · replace h := h.2 c9
    refine lv_iload_n (pc := 10) hx hb d_A_readTerm_10 rfl (lv_at hl 0 rfl) ?_
    refine lv_iconst (pc := 11) (v := 3) hx hb d_A_readTerm_11 (by decide) ?_
    refine lv_icmp_eq (pc := 12) (tgt := 22) hx hb d_A_readTerm_12 (by decide) (fun c9 => ?_) (fun c9 => ?_)
    · replace h := h.1 c9
      exact c_A_readTerm_22  fx HR h hw (lv_sub hl [1, 0] rfl)
    · replace h := h.2 c9
      refine lv_aload_n (pc := 15) hx hb d_A_readTerm_15 rfl (lv_at hl 1 rfl) ?_
      refine lv_iconst (pc := 16) (v := 2) hx hb d_A_readTerm_16 (by decide) ?_
      refine rsV (pc := 17) hw (rnV (pc := 17) xtC fx hw (c_A_complain h _) cw_A_90 (rcC_10 hw) rfl ⟨Nat.le_of_ble_eq_true rfl, Nat.le_of_ble_eq_true rfl⟩ hl.1 (Nat.le_of_ble_eq_true rfl) d_A_readTerm_17 ⟨Nat.zero_le _, Nat.zero_le _⟩) (fun σ_12 H locs hw h => ?_)
      refine lv_iconst (pc := 20) (v := 0) hx hb d_A_readTerm_20 (by decide) ?_
      exact HR rfl d_A_readTerm_21 h hw
end
theorem c_A_readTerm {l : Launch} {D : va_G} {cA : Nat → ClassId} {a : Nat → Nat} {ad : Nat → Nat → Nat} {σ : SS} {post : Int32 → SS → Prop} (h : f_A_readTerm post σ) : mI l y_A_readTerm b_A_readTerm 3 (some .int) 2 46 D vcl (tyl cA) (wC cA a) (XC ad) σ [.ref (a 10)] post := met_I (by decide) (Nat.le_of_ble_eq_true rfl) (fun p e s m args below meth c A Q fx HR H ls hw hl => e_A_readTerm  fx HR h hw hl)
abbrev r_A_readExpression : Room := { frames := 3, cells := 0, slots := 0, locals := 68 }
def f_A_readExpression_73 (post : Int32 → SS → Prop) (k22 : SS → Int32 → Int32 → Int32 → Prop) (σ : SS) (x1 : Int32) (x2 : Int32) (x3 : Int32) : Prop := nm (x3 + 1) fun x3_1 => k22 σ x1 x2 x3_1
def f_A_readExpression_48 (post : Int32 → SS → Prop) (k22 : SS → Int32 → Int32 → Int32 → Prop) (σ : SS) (x3 : Int32) (s0 : Int32) (s1 : Int32) : Prop := nm (s1 + s0) fun x2_2 => f_A_takes (fun r_4 σ_3 => br (r_4 = 0) (f_A_takes (fun r_6 σ_5 => br (r_6 = 0) (post (x2_2 &&& 65535) σ_5) (f_A_readExpression_73 post k22 σ_5 r_4 x2_2 x3)) σ_3 43) (f_A_readExpression_73 post k22 σ_3 r_4 x2_2 x3)) σ 45
def f_A_readExpression_22 (post : Int32 → SS → Prop) : Nat → SS → Int32 → Int32 → Int32 → Prop
  | 0, _, _, _, _ => False
  | n + 1, σ, x1, x2, x3 => br (6000 ≤ x3) (post (x2 &&& 65535) σ) (f_A_readTerm (fun r_8 σ_7 => br (x1 = 0) (f_A_readExpression_48 post (f_A_readExpression_22 post n) σ_7 x3 r_8 x2) (f_A_readExpression_48 post (f_A_readExpression_22 post n) σ_7 x3 (-r_8) x2)) σ)
def f_A_readExpression_18 (post : Int32 → SS → Prop) (σ : SS) (x1 : Int32) : Prop := ∃ n9, f_A_readExpression_22 post n9 σ x1 0 0
def f_A_readExpression (post : Int32 → SS → Prop) (σ : SS) : Prop := f_A_takes (fun r_10 σ_9 => br (r_10 = 0) (f_A_takes (fun r_12 σ_11 => f_A_readExpression_18 post σ_11 r_10) σ_9 43) (f_A_readExpression_18 post σ_9 r_10)) σ 45
section
variable {p : Program} {l : Launch} {e : Env} {s : State} {m : MethodId} {args : Array Value} {below : List Frame} {meth : Method} {c : Code} {Q : State → Prop} {D : va_G} {cA : Nat → ClassId} {a : Nat → Nat} {ad : Nat → Nat → Nat} {A : Nat → Prop}
set_option maxHeartbeats 4000000 in
set_option maxRecDepth 100000 in
theorem c_A_readExpression_73 (fx : CallFix p m c b_A_readExpression 5 s args GW RNA) {post : Int32 → SS → Prop} (HR : RetI p l e r_A_readExpression s m args below meth c Q D vcl (tyl cA) (wC cA a) (XC ad) A b_A_readExpression .int post) {k22 : SS → Int32 → Int32 → Int32 → Prop} (K22 : ∀ {σ : SS} {x1 : Int32} {x2 : Int32} {x3 : Int32} {H : Heap} {locs : List Loc} {ls : Array Slot}, k22 σ x1 x2 x3 → CX D vcl (tyl cA) (wC cA a σ) (XC ad) A s H locs → lv_has ls 5 [(0, .ref (a 10)), (1, .int x1), (2, .int x2), (3, .int x3)] → W p l e r_A_readExpression s m args below meth c H locs 0 0 Q (F0 m 22 ls [])) {σ : SS} {x1 : Int32} {x2 : Int32} {x3 : Int32} {H : Heap} {locs : List Loc} {ls : Array Slot} (h : f_A_readExpression_73 post k22 σ x1 x2 x3) (hw : CX D vcl (tyl cA) (wC cA a σ) (XC ad) A s H locs) (hl : lv_has ls 5 [(0, .ref (a 10)), (1, .int x1), (2, .int x2), (3, .int x3)]) : W p l e r_A_readExpression s m args below meth c H locs 0 0 Q (F0 m 73 ls []) := by
  have hx := fx.1
  have hb := fx.2.1
  unfold f_A_readExpression_73 at h
  obtain ⟨x3_1, e9⟩ : ∃ z : Int32, z = x3 + 1 := ⟨_, rfl⟩
  replace h := nm_u h e9
  refine lv_iinc (pc := 73) (v := x3_1) (lv' := [(3, .int x3_1), (0, .ref (a 10)), (1, .int x1), (2, .int x2)]) hx hb d_A_readExpression_73 hl (k := 3) rfl (by rw [e9]; rfl) (by decide) rfl (fun ls hl => ?_)
  clear e9
  refine lv_goto (pc := 76) (tgt := 22) hx hb d_A_readExpression_76 (by decide) ?_
  exact K22 h hw (lv_sub hl [1, 2, 3, 0] rfl)
set_option maxHeartbeats 4000000 in
set_option maxRecDepth 100000 in
theorem c_A_readExpression_48 (fx : CallFix p m c b_A_readExpression 5 s args GW RNA) {post : Int32 → SS → Prop} (HR : RetI p l e r_A_readExpression s m args below meth c Q D vcl (tyl cA) (wC cA a) (XC ad) A b_A_readExpression .int post) {k22 : SS → Int32 → Int32 → Int32 → Prop} (K22 : ∀ {σ : SS} {x1 : Int32} {x2 : Int32} {x3 : Int32} {H : Heap} {locs : List Loc} {ls : Array Slot}, k22 σ x1 x2 x3 → CX D vcl (tyl cA) (wC cA a σ) (XC ad) A s H locs → lv_has ls 5 [(0, .ref (a 10)), (1, .int x1), (2, .int x2), (3, .int x3)] → W p l e r_A_readExpression s m args below meth c H locs 0 0 Q (F0 m 22 ls [])) {σ : SS} {x3 : Int32} {s0 : Int32} {s1 : Int32} {H : Heap} {locs : List Loc} {ls : Array Slot} (h : f_A_readExpression_48 post k22 σ x3 s0 s1) (hw : CX D vcl (tyl cA) (wC cA a σ) (XC ad) A s H locs) (hl : lv_has ls 5 [(0, .ref (a 10)), (3, .int x3)]) : W p l e r_A_readExpression s m args below meth c H locs 0 0 Q (F0 m 48 ls [.int s0, .int s1]) := by
  have hx := fx.1
  have hb := fx.2.1
  unfold f_A_readExpression_48 at h
  refine lv_iadd (pc := 48) hx hb d_A_readExpression_48 ?_
  refine lv_topi (fun x2_2 e9 => ?_)
  replace h := nm_u h e9
  clear e9
  refine lv_istore_n (pc := 49) (lv' := [(2, .int x2_2), (0, .ref (a 10)), (3, .int x3)]) hx hb d_A_readExpression_49 rfl hl (by decide) rfl (fun ls hl => ?_)
  refine lv_aload_n (pc := 50) hx hb d_A_readExpression_50 rfl (lv_at hl 1 rfl) ?_
  refine lv_bipush (pc := 51) (v := 45) hx hb d_A_readExpression_51 (by decide) ?_
  refine rsI (pc := 53) hw (rnV (pc := 53) xtC fx hw (c_A_takes h _) cw_A_130 (rcC_10 hw) rfl ⟨Nat.le_of_ble_eq_true rfl, Nat.le_of_ble_eq_true rfl⟩ hl.1 (Nat.le_of_ble_eq_true rfl) d_A_readExpression_53 ⟨Nat.zero_le _, Nat.zero_le _⟩) (fun r_4 σ_3 H locs hw h => ?_)
  have zr_4 := h.1
  replace h := h.2
  refine lv_istore_n (pc := 56) (lv' := [(1, .int r_4), (2, .int x2_2), (0, .ref (a 10)), (3, .int x3)]) hx hb d_A_readExpression_56 rfl hl (by decide) rfl (fun ls hl => ?_)
  refine lv_iload_n (pc := 57) hx hb d_A_readExpression_57 rfl (lv_at hl 0 rfl) ?_
  refine lv_if_ne (pc := 58) (tgt := 73) hx hb d_A_readExpression_58 (by decide) (fun c9 => ?_) (fun c9 => ?_)
  · replace h := h.2 c9
    exact c_A_readExpression_73  fx HR K22 h hw (lv_sub hl [2, 0, 1, 3] rfl)
  · replace h := h.1 c9
    refine lv_aload_n (pc := 61) hx hb d_A_readExpression_61 rfl (lv_at hl 2 rfl) ?_
    refine lv_bipush (pc := 62) (v := 43) hx hb d_A_readExpression_62 (by decide) ?_
    refine rsI (pc := 64) hw (rnV (pc := 64) xtC fx hw (c_A_takes h _) cw_A_130 (rcC_10 hw) rfl ⟨Nat.le_of_ble_eq_true rfl, Nat.le_of_ble_eq_true rfl⟩ hl.1 (Nat.le_of_ble_eq_true rfl) d_A_readExpression_64 ⟨Nat.zero_le _, Nat.zero_le _⟩) (fun r_6 σ_5 H locs hw h => ?_)
    have zr_6 := h.1
    replace h := h.2
    refine lv_if_ne (pc := 67) (tgt := 73) hx hb d_A_readExpression_67 (by decide) (fun c9 => ?_) (fun c9 => ?_)
    · replace h := h.2 c9
      exact c_A_readExpression_73  fx HR K22 h hw (lv_sub hl [2, 0, 1, 3] rfl)
    · replace h := h.1 c9
      refine lv_goto (pc := 70) (tgt := 79) hx hb d_A_readExpression_70 (by decide) ?_
      refine lv_iload_n (pc := 79) hx hb d_A_readExpression_79 rfl (lv_at hl 1 rfl) ?_
      refine lv_ldc (pc := 80) (v := 65535) hx hb fx.2.2.2.1 (fx.2.2.2.2 _ kw_587) d_A_readExpression_80 ?_
      refine lv_iand (pc := 82) hx hb d_A_readExpression_82 ?_
      exact HR rfl d_A_readExpression_83 h hw
set_option maxHeartbeats 4000000 in
set_option maxRecDepth 100000 in
theorem c_A_readExpression_22 (fx : CallFix p m c b_A_readExpression 5 s args GW RNA) {post : Int32 → SS → Prop} (HR : RetI p l e r_A_readExpression s m args below meth c Q D vcl (tyl cA) (wC cA a) (XC ad) A b_A_readExpression .int post) : ∀ (n : Nat) {σ : SS} {x1 : Int32} {x2 : Int32} {x3 : Int32} {H : Heap} {locs : List Loc} {ls : Array Slot}, f_A_readExpression_22 post n σ x1 x2 x3 → CX D vcl (tyl cA) (wC cA a σ) (XC ad) A s H locs → lv_has ls 5 [(0, .ref (a 10)), (1, .int x1), (2, .int x2), (3, .int x3)] → W p l e r_A_readExpression s m args below meth c H locs 0 0 Q (F0 m 22 ls []) := by
  have hx := fx.1
  have hb := fx.2.1
  intro n
  induction n with
  | zero => intro σ x1 x2 x3 H locs ls h; exact h.elim
  | succ n ih =>
    intro σ x1 x2 x3 H locs ls h hw hl
    have K22 := @ih
    unfold f_A_readExpression_22 at h
    refine lv_iload_n (pc := 22) hx hb d_A_readExpression_22 rfl (lv_at hl 3 rfl) ?_
    refine lv_sipush (pc := 23) (v := 6000) hx hb d_A_readExpression_23 (by decide) ?_
    refine lv_icmp_ge (pc := 26) (tgt := 79) hx hb d_A_readExpression_26 (by decide) (fun c9 => ?_) (fun c9 => ?_)
    · replace h := h.1 c9
      refine lv_iload_n (pc := 79) hx hb d_A_readExpression_79 rfl (lv_at hl 2 rfl) ?_
      refine lv_ldc (pc := 80) (v := 65535) hx hb fx.2.2.2.1 (fx.2.2.2.2 _ kw_587) d_A_readExpression_80 ?_
      refine lv_iand (pc := 82) hx hb d_A_readExpression_82 ?_
      exact HR rfl d_A_readExpression_83 h hw
    · replace h := h.2 c9
      refine lv_aload_n (pc := 29) hx hb d_A_readExpression_29 rfl (lv_at hl 0 rfl) ?_
      refine rsI (pc := 30) hw (rnV (pc := 30) xtC fx hw (c_A_readTerm h _) cw_A_181 (rcC_10 hw) rfl ⟨Nat.le_of_ble_eq_true rfl, Nat.le_of_ble_eq_true rfl⟩ hl.1 (Nat.le_of_ble_eq_true rfl) d_A_readExpression_30 ⟨Nat.zero_le _, Nat.zero_le _⟩) (fun r_8 σ_7 H locs hw h => ?_)
      refine lv_istore (pc := 33) (lv' := [(4, .int r_8), (0, .ref (a 10)), (1, .int x1), (2, .int x2), (3, .int x3)]) hx hb d_A_readExpression_33 hl (by decide) rfl (fun ls hl => ?_)
      refine lv_iload_n (pc := 35) hx hb d_A_readExpression_35 rfl (lv_at hl 3 rfl) ?_
      refine lv_iload_n (pc := 36) hx hb d_A_readExpression_36 rfl (lv_at hl 2 rfl) ?_
      refine lv_if_eq (pc := 37) (tgt := 46) hx hb d_A_readExpression_37 (by decide) (fun c9 => ?_) (fun c9 => ?_)
      · replace h := h.1 c9
        refine lv_iload (pc := 46) hx hb d_A_readExpression_46 (lv_at hl 0 rfl) ?_
        exact c_A_readExpression_48  fx HR K22 h hw (lv_sub hl [1, 4] rfl)
      · replace h := h.2 c9
        refine lv_iload (pc := 40) hx hb d_A_readExpression_40 (lv_at hl 0 rfl) ?_
        refine lv_ineg (pc := 42) hx hb d_A_readExpression_42 ?_
        refine lv_goto (pc := 43) (tgt := 48) hx hb d_A_readExpression_43 (by decide) ?_
        exact c_A_readExpression_48  fx HR K22 h hw (lv_sub hl [1, 4] rfl)
set_option maxHeartbeats 4000000 in
set_option maxRecDepth 100000 in
theorem c_A_readExpression_18 (fx : CallFix p m c b_A_readExpression 5 s args GW RNA) {post : Int32 → SS → Prop} (HR : RetI p l e r_A_readExpression s m args below meth c Q D vcl (tyl cA) (wC cA a) (XC ad) A b_A_readExpression .int post) {σ : SS} {x1 : Int32} {H : Heap} {locs : List Loc} {ls : Array Slot} (h : f_A_readExpression_18 post σ x1) (hw : CX D vcl (tyl cA) (wC cA a σ) (XC ad) A s H locs) (hl : lv_has ls 5 [(0, .ref (a 10)), (1, .int x1)]) : W p l e r_A_readExpression s m args below meth c H locs 0 0 Q (F0 m 18 ls []) := by
  have hx := fx.1
  have hb := fx.2.1
  unfold f_A_readExpression_18 at h
  refine lv_iconst (pc := 18) (v := 0) hx hb d_A_readExpression_18 (by decide) ?_
  refine lv_istore_n (pc := 19) (lv' := [(2, .int 0), (0, .ref (a 10)), (1, .int x1)]) hx hb d_A_readExpression_19 rfl hl (by decide) rfl (fun ls hl => ?_)
  refine lv_iconst (pc := 20) (v := 0) hx hb d_A_readExpression_20 (by decide) ?_
  refine lv_istore_n (pc := 21) (lv' := [(3, .int 0), (2, .int 0), (0, .ref (a 10)), (1, .int x1)]) hx hb d_A_readExpression_21 rfl hl (by decide) rfl (fun ls hl => ?_)
  obtain ⟨n9, h⟩ := h
  exact c_A_readExpression_22  fx HR n9 h hw (lv_sub hl [2, 3, 1, 0] rfl)
set_option maxHeartbeats 4000000 in
set_option maxRecDepth 100000 in
theorem e_A_readExpression (fx : CallFix p m c b_A_readExpression 5 s args GW RNA) {post : Int32 → SS → Prop} (HR : RetI p l e r_A_readExpression s m args below meth c Q D vcl (tyl cA) (wC cA a) (XC ad) A b_A_readExpression .int post) {σ : SS} {H : Heap} {locs : List Loc} {ls : Array Slot} (h : f_A_readExpression post σ) (hw : CX D vcl (tyl cA) (wC cA a σ) (XC ad) A s H locs) (hl : lv_has ls 5 [(0, .ref (a 10))]) : W p l e r_A_readExpression s m args below meth c H locs 0 0 Q (F0 m 0 ls []) := by
  have hx := fx.1
  have hb := fx.2.1
  unfold f_A_readExpression at h
  refine lv_aload_n (pc := 0) hx hb d_A_readExpression_0 rfl (lv_at hl 0 rfl) ?_
  refine lv_bipush (pc := 1) (v := 45) hx hb d_A_readExpression_1 (by decide) ?_
  refine rsI (pc := 3) hw (rnV (pc := 3) xtC fx hw (c_A_takes h _) cw_A_130 (rcC_10 hw) rfl ⟨Nat.le_of_ble_eq_true rfl, Nat.le_of_ble_eq_true rfl⟩ hl.1 (Nat.le_of_ble_eq_true rfl) d_A_readExpression_3 ⟨Nat.zero_le _, Nat.zero_le _⟩) (fun r_10 σ_9 H locs hw h => ?_)
  have zr_10 := h.1
  replace h := h.2
  refine lv_istore_n (pc := 6) (lv' := [(1, .int r_10), (0, .ref (a 10))]) hx hb d_A_readExpression_6 rfl hl (by decide) rfl (fun ls hl => ?_)
  refine lv_iload_n (pc := 7) hx hb d_A_readExpression_7 rfl (lv_at hl 0 rfl) ?_
  refine lv_if_ne (pc := 8) (tgt := 18) hx hb d_A_readExpression_8 (by decide) (fun c9 => ?_) (fun c9 => ?_)
  · replace h := h.2 c9
    exact c_A_readExpression_18  fx HR h hw (lv_sub hl [1, 0] rfl)
  · replace h := h.1 c9
    refine lv_aload_n (pc := 11) hx hb d_A_readExpression_11 rfl (lv_at hl 1 rfl) ?_
    refine lv_bipush (pc := 12) (v := 43) hx hb d_A_readExpression_12 (by decide) ?_
    refine rsI (pc := 14) hw (rnV (pc := 14) xtC fx hw (c_A_takes h _) cw_A_130 (rcC_10 hw) rfl ⟨Nat.le_of_ble_eq_true rfl, Nat.le_of_ble_eq_true rfl⟩ hl.1 (Nat.le_of_ble_eq_true rfl) d_A_readExpression_14 ⟨Nat.zero_le _, Nat.zero_le _⟩) (fun r_12 σ_11 H locs hw h => ?_)
    have zr_12 := h.1
    replace h := h.2
    refine lv_pop (pc := 17) hx hb d_A_readExpression_17 rfl ?_
    exact c_A_readExpression_18  fx HR h hw (lv_sub hl [1, 0] rfl)
end
theorem c_A_readExpression {l : Launch} {D : va_G} {cA : Nat → ClassId} {a : Nat → Nat} {ad : Nat → Nat → Nat} {σ : SS} {post : Int32 → SS → Prop} (h : f_A_readExpression post σ) : mI l y_A_readExpression b_A_readExpression 5 (some .int) 3 68 D vcl (tyl cA) (wC cA a) (XC ad) σ [.ref (a 10)] post := met_I (by decide) (Nat.le_of_ble_eq_true rfl) (fun p e s m args below meth c A Q fx HR H ls hw hl => e_A_readExpression  fx HR h hw hl)
abbrev r_S_addressOperand : Room := { frames := 0, cells := 0, slots := 0, locals := 0 }
def f_S_addressOperand (post : Int32 → SS → Prop) (σ : SS) (e0 : Nat) : Prop := (e0 < 35) ∧ nm (eS_form e0) fun xs_2 => br (xs_2 = (2 : Int32)) (post 0 σ) (br (xs_2 = (3 : Int32)) (post 1 σ) (post (-1) σ))
section
variable {p : Program} {l : Launch} {e : Env} {s : State} {m : MethodId} {args : Array Value} {below : List Frame} {meth : Method} {c : Code} {Q : State → Prop} {D : va_G} {cA : Nat → ClassId} {a : Nat → Nat} {ad : Nat → Nat → Nat} {A : Nat → Prop}
set_option maxHeartbeats 4000000 in
set_option maxRecDepth 100000 in
theorem e_S_addressOperand (fx : CallFix p m c b_S_addressOperand 1 s args GW "NovaDesk$Statement") {post : Int32 → SS → Prop} (HR : RetI p l e r_S_addressOperand s m args below meth c Q D vcl (tyl cA) (wC cA a) (XC ad) A b_S_addressOperand .int post) {σ : SS} {e0 : Nat} {H : Heap} {locs : List Loc} {ls : Array Slot} (h : f_S_addressOperand post σ e0) (hw : CX D vcl (tyl cA) (wC cA a σ) (XC ad) A s H locs) (hl : lv_has ls 1 [(0, .ref (ad 0 e0))]) : W p l e r_S_addressOperand s m args below meth c H locs 0 0 Q (F0 m 0 ls []) := by
  have hx := fx.1
  have hb := fx.2.1
  unfold f_S_addressOperand at h
  refine lv_aload_n (pc := 0) hx hb d_S_addressOperand_0 rfl (lv_at hl 0 rfl) ?_
  have b_1 := h.1
  replace h := h.2
  refine geS_form (pc := 1) fx hw b_1 kw_1554 d_S_addressOperand_1 ?_
  refine lv_topi (fun xs_2 e9 => ?_)
  replace h := nm_u h e9
  clear e9
  by_cases cq_3 : xs_2 = (2 : Int32)
  · replace h := h.1 cq_3
    refine lv_lookup (pc := 4) (off := 28) (tgt := 32) hx hb d_S_addressOperand_4 (by decide) (by rw [cq_3]; decide) (by decide) ?_
    refine lv_iconst (pc := 32) (v := 0) hx hb d_S_addressOperand_32 (by decide) ?_
    exact HR rfl d_S_addressOperand_33 h hw
  replace h := h.2 cq_3
  by_cases cq_4 : xs_2 = (3 : Int32)
  · replace h := h.1 cq_4
    refine lv_lookup (pc := 4) (off := 30) (tgt := 34) hx hb d_S_addressOperand_4 (by decide) (by rw [cq_4]; decide) (by decide) ?_
    refine lv_iconst (pc := 34) (v := 1) hx hb d_S_addressOperand_34 (by decide) ?_
    exact HR rfl d_S_addressOperand_35 h hw
  replace h := h.2 cq_4
  refine lv_lookup (pc := 4) (off := 32) (tgt := 36) hx hb d_S_addressOperand_4 (by decide) (by rw [lv_osw cq_3 (by decide), lv_osw cq_4 (by decide)]; rfl) (by decide) ?_
  refine lv_iconst (pc := 36) (v := (-1)) hx hb d_S_addressOperand_36 (by decide) ?_
  exact HR rfl d_S_addressOperand_37 h hw
end
theorem c_S_addressOperand {l : Launch} {D : va_G} {cA : Nat → ClassId} {a : Nat → Nat} {ad : Nat → Nat → Nat} {σ : SS} {post : Int32 → SS → Prop} {e0 : Nat} (h : f_S_addressOperand post σ e0) : mI l y_S_addressOperand b_S_addressOperand 1 (some .int) 0 0 D vcl (tyl cA) (wC cA a) (XC ad) σ [.ref (ad 0 e0)] post := met_I (by decide) (Nat.le_of_ble_eq_true rfl) (fun p e s m args below meth c A Q fx HR H ls hw hl => e_S_addressOperand  fx HR h hw hl)
abbrev r_S_mostOperands : Room := { frames := 1, cells := 0, slots := 0, locals := 20 }
def f_S_mostOperands_29 (post : Int32 → SS → Prop) (σ : SS) (x0 : Nat) (s0 : Int32) : Prop := br (s0 = 0) ((x0 < 35) ∧ f_S_leastOperands (fun r_3 σ_2 => post r_3 σ_2) σ x0) ((x0 < 35) ∧ f_S_leastOperands (fun r_6 σ_5 => post (r_6 + 1) σ_5) σ x0)
def f_S_mostOperands (post : Int32 → SS → Prop) (σ : SS) (e0 : Nat) : Prop := (e0 < 35) ∧ br ((eS_form e0) = 2) (f_S_mostOperands_29 post σ e0 1) (br ((eS_form e0) = 3) (f_S_mostOperands_29 post σ e0 1) (br ((eS_form e0) = 4) (f_S_mostOperands_29 post σ e0 1) (f_S_mostOperands_29 post σ e0 0)))
section
variable {p : Program} {l : Launch} {e : Env} {s : State} {m : MethodId} {args : Array Value} {below : List Frame} {meth : Method} {c : Code} {Q : State → Prop} {D : va_G} {cA : Nat → ClassId} {a : Nat → Nat} {ad : Nat → Nat → Nat} {A : Nat → Prop}
set_option maxHeartbeats 4000000 in
set_option maxRecDepth 100000 in
theorem c_S_mostOperands_29 (fx : CallFix p m c b_S_mostOperands 2 s args GW "NovaDesk$Statement") {post : Int32 → SS → Prop} (HR : RetI p l e r_S_mostOperands s m args below meth c Q D vcl (tyl cA) (wC cA a) (XC ad) A b_S_mostOperands .int post) {σ : SS} {x0 : Nat} {s0 : Int32} {H : Heap} {locs : List Loc} {ls : Array Slot} (h : f_S_mostOperands_29 post σ x0 s0) (hw : CX D vcl (tyl cA) (wC cA a σ) (XC ad) A s H locs) (hl : lv_has ls 2 [(0, .ref (ad 0 x0))]) : W p l e r_S_mostOperands s m args below meth c H locs 0 0 Q (F0 m 29 ls [.int s0]) := by
  have hx := fx.1
  have hb := fx.2.1
  unfold f_S_mostOperands_29 at h
  refine lv_istore_n (pc := 29) (lv' := [(1, .int s0), (0, .ref (ad 0 x0))]) hx hb d_S_mostOperands_29 rfl hl (by decide) rfl (fun ls hl => ?_)
  refine lv_iload_n (pc := 30) hx hb d_S_mostOperands_30 rfl (lv_at hl 0 rfl) ?_
  refine lv_if_eq (pc := 31) (tgt := 43) hx hb d_S_mostOperands_31 (by decide) (fun c9 => ?_) (fun c9 => ?_)
  · replace h := h.1 c9
    refine lv_aload_n (pc := 43) hx hb d_S_mostOperands_43 rfl (lv_at hl 1 rfl) ?_
    have b_1 := h.1
    replace h := h.2
    refine rsI (pc := 44) hw (rnV (pc := 44) xtC fx hw (c_S_leastOperands h _) cw_S_171 (rcS hw b_1) rfl ⟨Nat.le_of_ble_eq_true rfl, Nat.le_of_ble_eq_true rfl⟩ hl.1 (Nat.le_of_ble_eq_true rfl) d_S_mostOperands_44 ⟨Nat.zero_le _, Nat.zero_le _⟩) (fun r_3 σ_2 H locs hw h => ?_)
    exact HR rfl d_S_mostOperands_47 h hw
  · replace h := h.2 c9
    refine lv_aload_n (pc := 34) hx hb d_S_mostOperands_34 rfl (lv_at hl 1 rfl) ?_
    have b_4 := h.1
    replace h := h.2
    refine rsI (pc := 35) hw (rnV (pc := 35) xtC fx hw (c_S_leastOperands h _) cw_S_171 (rcS hw b_4) rfl ⟨Nat.le_of_ble_eq_true rfl, Nat.le_of_ble_eq_true rfl⟩ hl.1 (Nat.le_of_ble_eq_true rfl) d_S_mostOperands_35 ⟨Nat.zero_le _, Nat.zero_le _⟩) (fun r_6 σ_5 H locs hw h => ?_)
    refine lv_iconst (pc := 38) (v := 1) hx hb d_S_mostOperands_38 (by decide) ?_
    refine lv_iadd (pc := 39) hx hb d_S_mostOperands_39 ?_
    refine lv_goto (pc := 40) (tgt := 47) hx hb d_S_mostOperands_40 (by decide) ?_
    exact HR rfl d_S_mostOperands_47 h hw
set_option maxHeartbeats 4000000 in
set_option maxRecDepth 100000 in
theorem e_S_mostOperands (fx : CallFix p m c b_S_mostOperands 2 s args GW "NovaDesk$Statement") {post : Int32 → SS → Prop} (HR : RetI p l e r_S_mostOperands s m args below meth c Q D vcl (tyl cA) (wC cA a) (XC ad) A b_S_mostOperands .int post) {σ : SS} {e0 : Nat} {H : Heap} {locs : List Loc} {ls : Array Slot} (h : f_S_mostOperands post σ e0) (hw : CX D vcl (tyl cA) (wC cA a σ) (XC ad) A s H locs) (hl : lv_has ls 2 [(0, .ref (ad 0 e0))]) : W p l e r_S_mostOperands s m args below meth c H locs 0 0 Q (F0 m 0 ls []) := by
  have hx := fx.1
  have hb := fx.2.1
  unfold f_S_mostOperands at h
  refine lv_aload_n (pc := 0) hx hb d_S_mostOperands_0 rfl (lv_at hl 0 rfl) ?_
  have b_7 := h.1
  replace h := h.2
  refine geS_form (pc := 1) fx hw b_7 kw_1554 d_S_mostOperands_1 ?_
  refine lv_iconst (pc := 4) (v := 2) hx hb d_S_mostOperands_4 (by decide) ?_
  refine lv_icmp_eq (pc := 5) (tgt := 24) hx hb d_S_mostOperands_5 (by decide) (fun c9 => ?_) (fun c9 => ?_)
  · replace h := h.1 c9
    refine lv_iconst (pc := 24) (v := 1) hx hb d_S_mostOperands_24 (by decide) ?_
    refine lv_goto (pc := 25) (tgt := 29) hx hb d_S_mostOperands_25 (by decide) ?_
    exact c_S_mostOperands_29  fx HR h hw (lv_sub hl [0] rfl)
  · replace h := h.2 c9
    refine lv_aload_n (pc := 8) hx hb d_S_mostOperands_8 rfl (lv_at hl 0 rfl) ?_
    refine geS_form (pc := 9) fx hw b_7 kw_1554 d_S_mostOperands_9 ?_
    refine lv_iconst (pc := 12) (v := 3) hx hb d_S_mostOperands_12 (by decide) ?_
    refine lv_icmp_eq (pc := 13) (tgt := 24) hx hb d_S_mostOperands_13 (by decide) (fun c9 => ?_) (fun c9 => ?_)
    · replace h := h.1 c9
      refine lv_iconst (pc := 24) (v := 1) hx hb d_S_mostOperands_24 (by decide) ?_
      refine lv_goto (pc := 25) (tgt := 29) hx hb d_S_mostOperands_25 (by decide) ?_
      exact c_S_mostOperands_29  fx HR h hw (lv_sub hl [0] rfl)
    · replace h := h.2 c9
      refine lv_aload_n (pc := 16) hx hb d_S_mostOperands_16 rfl (lv_at hl 0 rfl) ?_
      refine geS_form (pc := 17) fx hw b_7 kw_1554 d_S_mostOperands_17 ?_
      refine lv_iconst (pc := 20) (v := 4) hx hb d_S_mostOperands_20 (by decide) ?_
      refine lv_icmp_ne (pc := 21) (tgt := 28) hx hb d_S_mostOperands_21 (by decide) (fun c9 => ?_) (fun c9 => ?_)
      · replace h := h.2 c9
        refine lv_iconst (pc := 28) (v := 0) hx hb d_S_mostOperands_28 (by decide) ?_
        exact c_S_mostOperands_29  fx HR h hw (lv_sub hl [0] rfl)
      · replace h := h.1 c9
        refine lv_iconst (pc := 24) (v := 1) hx hb d_S_mostOperands_24 (by decide) ?_
        refine lv_goto (pc := 25) (tgt := 29) hx hb d_S_mostOperands_25 (by decide) ?_
        exact c_S_mostOperands_29  fx HR h hw (lv_sub hl [0] rfl)
end
theorem c_S_mostOperands {l : Launch} {D : va_G} {cA : Nat → ClassId} {a : Nat → Nat} {ad : Nat → Nat → Nat} {σ : SS} {post : Int32 → SS → Prop} {e0 : Nat} (h : f_S_mostOperands post σ e0) : mI l y_S_mostOperands b_S_mostOperands 2 (some .int) 1 20 D vcl (tyl cA) (wC cA a) (XC ad) σ [.ref (ad 0 e0)] post := met_I (by decide) (Nat.le_of_ble_eq_true rfl) (fun p e s m args below meth c A Q fx HR H ls hw hl => e_S_mostOperands  fx HR h hw hl)
abbrev r_S_furtherBits : Room := { frames := 4, cells := 0, slots := 0, locals := 91 }
def f_S_furtherBits_165 (post : Int32 → SS → Prop) (σ : SS) (x6 : Int32) (x8 : Int32) (s0 : Int64) : Prop := br ((lg_cmp s0 0) = 0) (post ((x6 <<< ((4 : Int32) &&& 31)) ||| (x8 <<< ((6 : Int32) &&& 31))) σ) (post (-1) σ)
def f_S_furtherBits_132 (post : Int32 → SS → Prop) (σ : SS) (x4 : Int64) (x6 : Int32) (s0 : Nat) : Prop := (s0 < 50) ∧ f_JStr_indexOf1 (fun r_3 σ_2 => nm (r_3 + 1) fun x8_4 => br (x8_4 = 0) (f_S_furtherBits_165 post σ_2 x6 x8_4 x4) (f_S_furtherBits_165 post σ_2 x6 x8_4 (x4 <<< ((8 : Int32).toInt64 &&& 63)))) σ s0 (((((x4.toUInt64 >>> ((56 : Int32).toInt64.toUInt64 &&& Int64.toUInt64 63)).toInt64).toInt32).toUInt32 % 65536).toInt32)
def f_S_furtherBits_117 (post : Int32 → SS → Prop) (σ : SS) (x0 : Nat) (x4 : Int64) (x6 : Int32) : Prop := (x0 < 35) ∧ br ((eS_form x0) = 4) (f_S_furtherBits_132 post σ x4 x6 2) (f_S_furtherBits_132 post σ x4 x6 3)
def f_S_furtherBits_115 (post : Int32 → SS → Prop) (σ : SS) (x0 : Nat) (x6 : Int32) (s0 : Int64) : Prop := f_S_furtherBits_117 post σ x0 s0 x6
def f_S_furtherBits_30 (post : Int32 → SS → Prop) (σ : SS) (x0 : Nat) (x1 : Int64) (s0 : Int32) : Prop := br (s0 = 0) ((x0 < 35) ∧ br ((lg_cmp x1 (eS_key x0)) = 0) (post 0 σ) (post (-1) σ)) ((x0 < 35) ∧ br ((lg_cmp ((x1.toUInt64 >>> ((40 : Int32).toInt64.toUInt64 &&& Int64.toUInt64 63)).toInt64) (((eS_key x0).toUInt64 >>> ((40 : Int32).toInt64.toUInt64 &&& Int64.toUInt64 63)).toInt64)) = 0) (nm (x1 <<< ((24 : Int32).toInt64 &&& 63)) fun x4_7 => br ((eS_form x0) = 4) (f_JStr_indexOf1 (fun r_9 σ_8 => nm (r_9 + 1) fun x6_10 => br (x6_10 = 0) (f_S_furtherBits_115 post σ_8 x0 x6_10 x4_7) (f_S_furtherBits_115 post σ_8 x0 x6_10 (x4_7 <<< ((8 : Int32).toInt64 &&& 63)))) σ 1 (((((x4_7.toUInt64 >>> ((56 : Int32).toInt64.toUInt64 &&& Int64.toUInt64 63)).toInt64).toInt32).toUInt32 % 65536).toInt32)) (f_S_furtherBits_117 post σ x0 x4_7 0)) (post (-1) σ))
def f_S_furtherBits (post : Int32 → SS → Prop) (σ : SS) (e0 : Nat) (x1 : Int64) : Prop := (e0 < 35) ∧ br ((eS_form e0) = 4) (f_S_furtherBits_30 post σ e0 x1 1) (br ((eS_form e0) = 5) (f_S_furtherBits_30 post σ e0 x1 1) (br ((eS_form e0) = 6) (f_S_furtherBits_30 post σ e0 x1 1) (f_S_furtherBits_30 post σ e0 x1 0)))
section
variable {p : Program} {l : Launch} {e : Env} {s : State} {m : MethodId} {args : Array Value} {below : List Frame} {meth : Method} {c : Code} {Q : State → Prop} {D : va_G} {cA : Nat → ClassId} {a : Nat → Nat} {ad : Nat → Nat → Nat} {A : Nat → Prop}
set_option maxHeartbeats 4000000 in
set_option maxRecDepth 100000 in
theorem c_S_furtherBits_165 (fx : CallFix p m c b_S_furtherBits 9 s args GW "NovaDesk$Statement") {post : Int32 → SS → Prop} (HR : RetI p l e r_S_furtherBits s m args below meth c Q D vcl (tyl cA) (wC cA a) (XC ad) A b_S_furtherBits .int post) {σ : SS} {x6 : Int32} {x8 : Int32} {s0 : Int64} {H : Heap} {locs : List Loc} {ls : Array Slot} (h : f_S_furtherBits_165 post σ x6 x8 s0) (hw : CX D vcl (tyl cA) (wC cA a σ) (XC ad) A s H locs) (hl : lv_has ls 9 [(6, .int x6), (8, .int x8)]) : W p l e r_S_furtherBits s m args below meth c H locs 0 0 Q (F0 m 165 ls [.long s0]) := by
  have hx := fx.1
  have hb := fx.2.1
  unfold f_S_furtherBits_165 at h
  refine lv_lstore (pc := 165) (lv' := [(4, .long s0), (6, .int x6), (8, .int x8)]) hx hb d_S_furtherBits_165 hl (by decide) rfl (fun ls hl => ?_)
  refine lv_lload (pc := 167) hx hb d_S_furtherBits_167 (lv_at hl 0 rfl) ?_
  refine lv_lconst (pc := 169) (v := 0) hx hb d_S_furtherBits_169 (by decide) ?_
  refine W.lcmp (pc := 170) hx hb d_S_furtherBits_170 ?_
  refine lv_if_ne (pc := 171) (tgt := 187) hx hb d_S_furtherBits_171 (by decide) (fun c9 => ?_) (fun c9 => ?_)
  · replace h := h.2 c9
    refine lv_iconst (pc := 187) (v := (-1)) hx hb d_S_furtherBits_187 (by decide) ?_
    exact HR rfl d_S_furtherBits_188 h hw
  · replace h := h.1 c9
    refine lv_iload (pc := 174) hx hb d_S_furtherBits_174 (lv_at hl 1 rfl) ?_
    refine lv_iconst (pc := 176) (v := 4) hx hb d_S_furtherBits_176 (by decide) ?_
    refine lv_ishl (pc := 177) hx hb d_S_furtherBits_177 ?_
    refine lv_iload (pc := 178) hx hb d_S_furtherBits_178 (lv_at hl 2 rfl) ?_
    refine lv_bipush (pc := 180) (v := 6) hx hb d_S_furtherBits_180 (by decide) ?_
    refine lv_ishl (pc := 182) hx hb d_S_furtherBits_182 ?_
    refine lv_ior (pc := 183) hx hb d_S_furtherBits_183 ?_
    refine lv_goto (pc := 184) (tgt := 188) hx hb d_S_furtherBits_184 (by decide) ?_
    exact HR rfl d_S_furtherBits_188 h hw
set_option maxHeartbeats 4000000 in
set_option maxRecDepth 100000 in
theorem c_S_furtherBits_132 (fx : CallFix p m c b_S_furtherBits 9 s args GW "NovaDesk$Statement") {post : Int32 → SS → Prop} (HR : RetI p l e r_S_furtherBits s m args below meth c Q D vcl (tyl cA) (wC cA a) (XC ad) A b_S_furtherBits .int post) {σ : SS} {x4 : Int64} {x6 : Int32} {s0 : Nat} {H : Heap} {locs : List Loc} {ls : Array Slot} (h : f_S_furtherBits_132 post σ x4 x6 s0) (hw : CX D vcl (tyl cA) (wC cA a σ) (XC ad) A s H locs) (hl : lv_has ls 9 [(4, .long x4), (6, .int x6)]) : W p l e r_S_furtherBits s m args below meth c H locs 0 0 Q (F0 m 132 ls [.ref (ad 2 s0)]) := by
  have hx := fx.1
  have hb := fx.2.1
  unfold f_S_furtherBits_132 at h
  refine lv_astore (pc := 132) (lv' := [(7, .ref (ad 2 s0)), (4, .long x4), (6, .int x6)]) hx hb d_S_furtherBits_132 hl (by decide) rfl (fun ls hl => ?_)
  refine lv_aload (pc := 134) hx hb d_S_furtherBits_134 (lv_at hl 0 rfl) ?_
  refine lv_lload (pc := 136) hx hb d_S_furtherBits_136 (lv_at hl 1 rfl) ?_
  refine lv_bipush (pc := 138) (v := 56) hx hb d_S_furtherBits_138 (by decide) ?_
  refine lv_lushr (pc := 140) hx hb d_S_furtherBits_140 rfl ?_
  refine lv_l2i (pc := 141) hx hb d_S_furtherBits_141 rfl ?_
  refine lv_i2c (pc := 142) hx hb d_S_furtherBits_142 rfl ?_
  have b_1 := h.1
  replace h := h.2
  refine rsI (pc := 143) hw (rnV (pc := 143) xtC fx hw (c_JStr_indexOf1 h _) cw_S_161 (rcK hw b_1) rfl ⟨Nat.le_of_ble_eq_true rfl, Nat.le_of_ble_eq_true rfl⟩ hl.1 (Nat.le_of_ble_eq_true rfl) d_S_furtherBits_143 ⟨Nat.zero_le _, Nat.zero_le _⟩) (fun r_3 σ_2 H locs hw h => ?_)
  refine lv_iconst (pc := 146) (v := 1) hx hb d_S_furtherBits_146 (by decide) ?_
  refine lv_iadd (pc := 147) hx hb d_S_furtherBits_147 ?_
  refine lv_topi (fun x8_4 e9 => ?_)
  replace h := nm_u h e9
  clear e9
  refine lv_istore (pc := 148) (lv' := [(8, .int x8_4), (7, .ref (ad 2 s0)), (4, .long x4), (6, .int x6)]) hx hb d_S_furtherBits_148 hl (by decide) rfl (fun ls hl => ?_)
  refine lv_iload (pc := 150) hx hb d_S_furtherBits_150 (lv_at hl 0 rfl) ?_
  refine lv_if_ne (pc := 152) (tgt := 160) hx hb d_S_furtherBits_152 (by decide) (fun c9 => ?_) (fun c9 => ?_)
  · replace h := h.2 c9
    refine lv_lload (pc := 160) hx hb d_S_furtherBits_160 (lv_at hl 2 rfl) ?_
    refine lv_bipush (pc := 162) (v := 8) hx hb d_S_furtherBits_162 (by decide) ?_
    refine lv_lshl (pc := 164) hx hb d_S_furtherBits_164 rfl ?_
    exact c_S_furtherBits_165  fx HR h hw (lv_sub hl [3, 0] rfl)
  · replace h := h.1 c9
    refine lv_lload (pc := 155) hx hb d_S_furtherBits_155 (lv_at hl 2 rfl) ?_
    refine lv_goto (pc := 157) (tgt := 165) hx hb d_S_furtherBits_157 (by decide) ?_
    exact c_S_furtherBits_165  fx HR h hw (lv_sub hl [3, 0] rfl)
set_option maxHeartbeats 4000000 in
set_option maxRecDepth 100000 in
theorem c_S_furtherBits_117 (fx : CallFix p m c b_S_furtherBits 9 s args GW "NovaDesk$Statement") {post : Int32 → SS → Prop} (HR : RetI p l e r_S_furtherBits s m args below meth c Q D vcl (tyl cA) (wC cA a) (XC ad) A b_S_furtherBits .int post) {σ : SS} {x0 : Nat} {x4 : Int64} {x6 : Int32} {H : Heap} {locs : List Loc} {ls : Array Slot} (h : f_S_furtherBits_117 post σ x0 x4 x6) (hw : CX D vcl (tyl cA) (wC cA a σ) (XC ad) A s H locs) (hl : lv_has ls 9 [(0, .ref (ad 0 x0)), (4, .long x4), (6, .int x6)]) : W p l e r_S_furtherBits s m args below meth c H locs 0 0 Q (F0 m 117 ls []) := by
  have hx := fx.1
  have hb := fx.2.1
  unfold f_S_furtherBits_117 at h
  refine lv_aload_n (pc := 117) hx hb d_S_furtherBits_117 rfl (lv_at hl 0 rfl) ?_
  have b_5 := h.1
  replace h := h.2
  refine geS_form (pc := 118) fx hw b_5 kw_1554 d_S_furtherBits_118 ?_
  refine lv_iconst (pc := 121) (v := 4) hx hb d_S_furtherBits_121 (by decide) ?_
  refine lv_icmp_ne (pc := 122) (tgt := 130) hx hb d_S_furtherBits_122 (by decide) (fun c9 => ?_) (fun c9 => ?_)
  · replace h := h.2 c9
    refine ldK (pc := 130) (tx := "SCP") (j := 3) fx hw (by decide +kernel) d_S_furtherBits_130 ?_
    exact c_S_furtherBits_132  fx HR h hw (lv_sub hl [1, 2] rfl)
  · replace h := h.1 c9
    refine ldK (pc := 125) (tx := "LRS") (j := 2) fx hw (by decide +kernel) d_S_furtherBits_125 ?_
    refine lv_goto (pc := 127) (tgt := 132) hx hb d_S_furtherBits_127 (by decide) ?_
    exact c_S_furtherBits_132  fx HR h hw (lv_sub hl [1, 2] rfl)
set_option maxHeartbeats 4000000 in
set_option maxRecDepth 100000 in
theorem c_S_furtherBits_115 (fx : CallFix p m c b_S_furtherBits 9 s args GW "NovaDesk$Statement") {post : Int32 → SS → Prop} (HR : RetI p l e r_S_furtherBits s m args below meth c Q D vcl (tyl cA) (wC cA a) (XC ad) A b_S_furtherBits .int post) {σ : SS} {x0 : Nat} {x6 : Int32} {s0 : Int64} {H : Heap} {locs : List Loc} {ls : Array Slot} (h : f_S_furtherBits_115 post σ x0 x6 s0) (hw : CX D vcl (tyl cA) (wC cA a σ) (XC ad) A s H locs) (hl : lv_has ls 9 [(0, .ref (ad 0 x0)), (6, .int x6)]) : W p l e r_S_furtherBits s m args below meth c H locs 0 0 Q (F0 m 115 ls [.long s0]) := by
  have hx := fx.1
  have hb := fx.2.1
  unfold f_S_furtherBits_115 at h
  refine lv_lstore (pc := 115) (lv' := [(4, .long s0), (0, .ref (ad 0 x0)), (6, .int x6)]) hx hb d_S_furtherBits_115 hl (by decide) rfl (fun ls hl => ?_)
  exact c_S_furtherBits_117  fx HR h hw (lv_sub hl [1, 0, 2] rfl)
set_option maxHeartbeats 4000000 in
set_option maxRecDepth 100000 in
theorem c_S_furtherBits_30 (fx : CallFix p m c b_S_furtherBits 9 s args GW "NovaDesk$Statement") {post : Int32 → SS → Prop} (HR : RetI p l e r_S_furtherBits s m args below meth c Q D vcl (tyl cA) (wC cA a) (XC ad) A b_S_furtherBits .int post) {σ : SS} {x0 : Nat} {x1 : Int64} {s0 : Int32} {H : Heap} {locs : List Loc} {ls : Array Slot} (h : f_S_furtherBits_30 post σ x0 x1 s0) (hw : CX D vcl (tyl cA) (wC cA a σ) (XC ad) A s H locs) (hl : lv_has ls 9 [(0, .ref (ad 0 x0)), (1, .long x1)]) : W p l e r_S_furtherBits s m args below meth c H locs 0 0 Q (F0 m 30 ls [.int s0]) := by
  have hx := fx.1
  have hb := fx.2.1
  unfold f_S_furtherBits_30 at h
  refine lv_istore_n (pc := 30) (lv' := [(3, .int s0), (0, .ref (ad 0 x0)), (1, .long x1)]) hx hb d_S_furtherBits_30 rfl hl (by decide) rfl (fun ls hl => ?_)
  refine lv_iload_n (pc := 31) hx hb d_S_furtherBits_31 rfl (lv_at hl 0 rfl) ?_
  refine lv_if_ne (pc := 32) (tgt := 50) hx hb d_S_furtherBits_32 (by decide) (fun c9 => ?_) (fun c9 => ?_)
  · replace h := h.2 c9
    refine lv_lload_n (pc := 50) hx hb d_S_furtherBits_50 rfl (lv_at hl 2 rfl) ?_
    refine lv_bipush (pc := 51) (v := 40) hx hb d_S_furtherBits_51 (by decide) ?_
    refine lv_lushr (pc := 53) hx hb d_S_furtherBits_53 rfl ?_
    refine lv_aload_n (pc := 54) hx hb d_S_furtherBits_54 rfl (lv_at hl 1 rfl) ?_
    have b_6 := h.1
    replace h := h.2
    refine geS_key (pc := 55) fx hw b_6 kw_1555 d_S_furtherBits_55 ?_
    refine lv_bipush (pc := 58) (v := 40) hx hb d_S_furtherBits_58 (by decide) ?_
    refine lv_lushr (pc := 60) hx hb d_S_furtherBits_60 rfl ?_
    refine W.lcmp (pc := 61) hx hb d_S_furtherBits_61 ?_
    refine lv_if_eq (pc := 62) (tgt := 67) hx hb d_S_furtherBits_62 (by decide) (fun c9 => ?_) (fun c9 => ?_)
    · replace h := h.1 c9
      refine lv_lload_n (pc := 67) hx hb d_S_furtherBits_67 rfl (lv_at hl 2 rfl) ?_
      refine lv_bipush (pc := 68) (v := 24) hx hb d_S_furtherBits_68 (by decide) ?_
      refine lv_lshl (pc := 70) hx hb d_S_furtherBits_70 rfl ?_
      refine lv_topl (fun x4_7 e9 => ?_)
      replace h := nm_u h e9
      clear e9
      refine lv_lstore (pc := 71) (lv' := [(4, .long x4_7), (3, .int s0), (0, .ref (ad 0 x0)), (1, .long x1)]) hx hb d_S_furtherBits_71 hl (by decide) rfl (fun ls hl => ?_)
      refine lv_iconst (pc := 73) (v := 0) hx hb d_S_furtherBits_73 (by decide) ?_
      refine lv_istore (pc := 74) (lv' := [(6, .int 0), (4, .long x4_7), (3, .int s0), (0, .ref (ad 0 x0)), (1, .long x1)]) hx hb d_S_furtherBits_74 hl (by decide) rfl (fun ls hl => ?_)
      refine lv_aload_n (pc := 76) hx hb d_S_furtherBits_76 rfl (lv_at hl 3 rfl) ?_
      refine geS_form (pc := 77) fx hw b_6 kw_1554 d_S_furtherBits_77 ?_
      refine lv_iconst (pc := 80) (v := 4) hx hb d_S_furtherBits_80 (by decide) ?_
      refine lv_icmp_ne (pc := 81) (tgt := 117) hx hb d_S_furtherBits_81 (by decide) (fun c9 => ?_) (fun c9 => ?_)
      · replace h := h.2 c9
        exact c_S_furtherBits_117  fx HR h hw (lv_sub hl [3, 1, 0] rfl)
      · replace h := h.1 c9
        refine ldK (pc := 84) (tx := "ZOC") (j := 1) fx hw (by decide +kernel) d_S_furtherBits_84 ?_
        refine lv_lload (pc := 86) hx hb d_S_furtherBits_86 (lv_at hl 1 rfl) ?_
        refine lv_bipush (pc := 88) (v := 56) hx hb d_S_furtherBits_88 (by decide) ?_
        refine lv_lushr (pc := 90) hx hb d_S_furtherBits_90 rfl ?_
        refine lv_l2i (pc := 91) hx hb d_S_furtherBits_91 rfl ?_
        refine lv_i2c (pc := 92) hx hb d_S_furtherBits_92 rfl ?_
        refine rsI (pc := 93) hw (rnV (pc := 93) xtC fx hw (c_JStr_indexOf1 h _) cw_S_161 (rcK hw (by decide)) rfl ⟨Nat.le_of_ble_eq_true rfl, Nat.le_of_ble_eq_true rfl⟩ hl.1 (Nat.le_of_ble_eq_true rfl) d_S_furtherBits_93 ⟨Nat.zero_le _, Nat.zero_le _⟩) (fun r_9 σ_8 H locs hw h => ?_)
        refine lv_iconst (pc := 96) (v := 1) hx hb d_S_furtherBits_96 (by decide) ?_
        refine lv_iadd (pc := 97) hx hb d_S_furtherBits_97 ?_
        refine lv_topi (fun x6_10 e9 => ?_)
        replace h := nm_u h e9
        clear e9
        refine lv_istore (pc := 98) (lv' := [(6, .int x6_10), (4, .long x4_7), (3, .int s0), (0, .ref (ad 0 x0)), (1, .long x1)]) hx hb d_S_furtherBits_98 hl (by decide) rfl (fun ls hl => ?_)
        refine lv_iload (pc := 100) hx hb d_S_furtherBits_100 (lv_at hl 0 rfl) ?_
        refine lv_if_ne (pc := 102) (tgt := 110) hx hb d_S_furtherBits_102 (by decide) (fun c9 => ?_) (fun c9 => ?_)
        · replace h := h.2 c9
          refine lv_lload (pc := 110) hx hb d_S_furtherBits_110 (lv_at hl 1 rfl) ?_
          refine lv_bipush (pc := 112) (v := 8) hx hb d_S_furtherBits_112 (by decide) ?_
          refine lv_lshl (pc := 114) hx hb d_S_furtherBits_114 rfl ?_
          exact c_S_furtherBits_115  fx HR h hw (lv_sub hl [3, 0] rfl)
        · replace h := h.1 c9
          refine lv_lload (pc := 105) hx hb d_S_furtherBits_105 (lv_at hl 1 rfl) ?_
          refine lv_goto (pc := 107) (tgt := 115) hx hb d_S_furtherBits_107 (by decide) ?_
          exact c_S_furtherBits_115  fx HR h hw (lv_sub hl [3, 0] rfl)
    · replace h := h.2 c9
      refine lv_iconst (pc := 65) (v := (-1)) hx hb d_S_furtherBits_65 (by decide) ?_
      exact HR rfl d_S_furtherBits_66 h hw
  · replace h := h.1 c9
    refine lv_lload_n (pc := 35) hx hb d_S_furtherBits_35 rfl (lv_at hl 2 rfl) ?_
    refine lv_aload_n (pc := 36) hx hb d_S_furtherBits_36 rfl (lv_at hl 1 rfl) ?_
    have b_11 := h.1
    replace h := h.2
    refine geS_key (pc := 37) fx hw b_11 kw_1555 d_S_furtherBits_37 ?_
    refine W.lcmp (pc := 40) hx hb d_S_furtherBits_40 ?_
    refine lv_if_ne (pc := 41) (tgt := 48) hx hb d_S_furtherBits_41 (by decide) (fun c9 => ?_) (fun c9 => ?_)
    · replace h := h.2 c9
      refine lv_iconst (pc := 48) (v := (-1)) hx hb d_S_furtherBits_48 (by decide) ?_
      exact HR rfl d_S_furtherBits_49 h hw
    · replace h := h.1 c9
      refine lv_iconst (pc := 44) (v := 0) hx hb d_S_furtherBits_44 (by decide) ?_
      refine lv_goto (pc := 45) (tgt := 49) hx hb d_S_furtherBits_45 (by decide) ?_
      exact HR rfl d_S_furtherBits_49 h hw
set_option maxHeartbeats 4000000 in
set_option maxRecDepth 100000 in
theorem e_S_furtherBits (fx : CallFix p m c b_S_furtherBits 9 s args GW "NovaDesk$Statement") {post : Int32 → SS → Prop} (HR : RetI p l e r_S_furtherBits s m args below meth c Q D vcl (tyl cA) (wC cA a) (XC ad) A b_S_furtherBits .int post) {σ : SS} {e0 : Nat} {x1 : Int64} {H : Heap} {locs : List Loc} {ls : Array Slot} (h : f_S_furtherBits post σ e0 x1) (hw : CX D vcl (tyl cA) (wC cA a σ) (XC ad) A s H locs) (hl : lv_has ls 9 [(0, .ref (ad 0 e0)), (1, .long x1)]) : W p l e r_S_furtherBits s m args below meth c H locs 0 0 Q (F0 m 0 ls []) := by
  have hx := fx.1
  have hb := fx.2.1
  unfold f_S_furtherBits at h
  refine lv_aload_n (pc := 0) hx hb d_S_furtherBits_0 rfl (lv_at hl 0 rfl) ?_
  have b_12 := h.1
  replace h := h.2
  refine geS_form (pc := 1) fx hw b_12 kw_1554 d_S_furtherBits_1 ?_
  refine lv_iconst (pc := 4) (v := 4) hx hb d_S_furtherBits_4 (by decide) ?_
  refine lv_icmp_eq (pc := 5) (tgt := 25) hx hb d_S_furtherBits_5 (by decide) (fun c9 => ?_) (fun c9 => ?_)
  · replace h := h.1 c9
    refine lv_iconst (pc := 25) (v := 1) hx hb d_S_furtherBits_25 (by decide) ?_
    refine lv_goto (pc := 26) (tgt := 30) hx hb d_S_furtherBits_26 (by decide) ?_
    exact c_S_furtherBits_30  fx HR h hw (lv_sub hl [0, 1] rfl)
  · replace h := h.2 c9
    refine lv_aload_n (pc := 8) hx hb d_S_furtherBits_8 rfl (lv_at hl 0 rfl) ?_
    refine geS_form (pc := 9) fx hw b_12 kw_1554 d_S_furtherBits_9 ?_
    refine lv_iconst (pc := 12) (v := 5) hx hb d_S_furtherBits_12 (by decide) ?_
    refine lv_icmp_eq (pc := 13) (tgt := 25) hx hb d_S_furtherBits_13 (by decide) (fun c9 => ?_) (fun c9 => ?_)
    · replace h := h.1 c9
      refine lv_iconst (pc := 25) (v := 1) hx hb d_S_furtherBits_25 (by decide) ?_
      refine lv_goto (pc := 26) (tgt := 30) hx hb d_S_furtherBits_26 (by decide) ?_
      exact c_S_furtherBits_30  fx HR h hw (lv_sub hl [0, 1] rfl)
    · replace h := h.2 c9
      refine lv_aload_n (pc := 16) hx hb d_S_furtherBits_16 rfl (lv_at hl 0 rfl) ?_
      refine geS_form (pc := 17) fx hw b_12 kw_1554 d_S_furtherBits_17 ?_
      refine lv_bipush (pc := 20) (v := 6) hx hb d_S_furtherBits_20 (by decide) ?_
      refine lv_icmp_ne (pc := 22) (tgt := 29) hx hb d_S_furtherBits_22 (by decide) (fun c9 => ?_) (fun c9 => ?_)
      · replace h := h.2 c9
        refine lv_iconst (pc := 29) (v := 0) hx hb d_S_furtherBits_29 (by decide) ?_
        exact c_S_furtherBits_30  fx HR h hw (lv_sub hl [0, 1] rfl)
      · replace h := h.1 c9
        refine lv_iconst (pc := 25) (v := 1) hx hb d_S_furtherBits_25 (by decide) ?_
        refine lv_goto (pc := 26) (tgt := 30) hx hb d_S_furtherBits_26 (by decide) ?_
        exact c_S_furtherBits_30  fx HR h hw (lv_sub hl [0, 1] rfl)
end
theorem c_S_furtherBits {l : Launch} {D : va_G} {cA : Nat → ClassId} {a : Nat → Nat} {ad : Nat → Nat → Nat} {σ : SS} {post : Int32 → SS → Prop} {e0 : Nat} {x1 : Int64} (h : f_S_furtherBits post σ e0 x1) : mI l y_S_furtherBits b_S_furtherBits 9 (some .int) 4 91 D vcl (tyl cA) (wC cA a) (XC ad) σ [.ref (ad 0 e0), .long x1] post := met_I (by decide) (Nat.le_of_ble_eq_true rfl) (fun p e s m args below meth c A Q fx HR H ls hw hl => e_S_furtherBits  fx HR h hw hl)
