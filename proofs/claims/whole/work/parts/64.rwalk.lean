/-! the reference, walked: part 4 -/
abbrev r_R_labelOf : Room := { frames := 0, cells := 0, slots := 0, locals := 0 }
def f_R_labelOf_2 (post : Int32 → SS → Prop) : Nat → SS → Int64 → Int32 → Prop
  | 0, _, _, _ => False
  | n + 1, σ, x1, x3 => br ((σ.1 16) ≤ x3) (post (-1) σ) (vp_in x3 200 ∧ br ((lg_cmp (σ.2.2.2 10 x3.toNatClampNeg) x1) = 0) (post x3 σ) (nm (x3 + 1) fun x3_1 => f_R_labelOf_2 post n σ x1 x3_1))
def f_R_labelOf (post : Int32 → SS → Prop) (σ : SS) (x1 : Int64) : Prop := ∃ n9, f_R_labelOf_2 post n9 σ x1 0
section
variable {p : Program} {l : Launch} {e : Env} {s : State} {m : MethodId} {args : Array Value} {below : List Frame} {meth : Method} {c : Code} {Q : State → Prop} {D : va_G} {cA : Nat → ClassId} {a : Nat → Nat} {X : (Nat → Prop) → State → Prop} {A : Nat → Prop}
set_option maxHeartbeats 4000000 in
set_option maxRecDepth 100000 in
theorem c_R_labelOf_2 (hX : XT X) (fx : CallFix p m c b_R_labelOf 4 s args GW RNR) {post : Int32 → SS → Prop} (HR : RetI p l e r_R_labelOf s m args below meth c Q D vcl (tyl cA) (wR cA a) X A b_R_labelOf .int post) : ∀ (n : Nat) {σ : SS} {x1 : Int64} {x3 : Int32} {H : Heap} {locs : List Loc} {ls : Array Slot}, f_R_labelOf_2 post n σ x1 x3 → CX D vcl (tyl cA) (wR cA a σ) X A s H locs → lv_has ls 4 [(0, .ref (a 0)), (1, .long x1), (3, .int x3)] → W p l e r_R_labelOf s m args below meth c H locs 0 0 Q (F0 m 2 ls []) := by
  have hx := fx.1
  have hb := fx.2.1
  intro n
  induction n with
  | zero => intro σ x1 x3 H locs ls h; exact h.elim
  | succ n ih =>
    intro σ x1 x3 H locs ls h hw hl
    have K2 := @ih
    unfold f_R_labelOf_2 at h
    refine lv_iload_n (pc := 2) hx hb d_R_labelOf_2 rfl (lv_at hl 2 rfl) ?_
    refine lv_aload_n (pc := 3) hx hb d_R_labelOf_3 rfl (lv_at hl 0 rfl) ?_
    refine gR_0_labelCount (pc := 4) fx hw kw_1094 d_R_labelOf_4 ?_
    refine lv_icmp_ge (pc := 7) (tgt := 29) hx hb d_R_labelOf_7 (by decide) (fun c9 => ?_) (fun c9 => ?_)
    · replace h := h.1 c9
      refine lv_iconst (pc := 29) (v := (-1)) hx hb d_R_labelOf_29 (by decide) ?_
      exact HR rfl d_R_labelOf_30 h hw
    · replace h := h.2 c9
      refine lv_aload_n (pc := 10) hx hb d_R_labelOf_10 rfl (lv_at hl 0 rfl) ?_
      refine gR_0_labels (pc := 11) fx hw kw_1092 d_R_labelOf_11 ?_
      refine lv_iload_n (pc := 14) hx hb d_R_labelOf_14 rfl (lv_at hl 2 rfl) ?_
      refine alR_10 (pc := 15) fx hw h.1 d_R_labelOf_15 ?_
      replace h := h.2
      refine lv_lload_n (pc := 16) hx hb d_R_labelOf_16 rfl (lv_at hl 1 rfl) ?_
      refine W.lcmp (pc := 17) hx hb d_R_labelOf_17 ?_
      refine lv_if_ne (pc := 18) (tgt := 23) hx hb d_R_labelOf_18 (by decide) (fun c9 => ?_) (fun c9 => ?_)
      · replace h := h.2 c9
        obtain ⟨x3_1, e9⟩ : ∃ z : Int32, z = x3 + 1 := ⟨_, rfl⟩
        replace h := nm_u h e9
        refine lv_iinc (pc := 23) (v := x3_1) (lv' := [(3, .int x3_1), (0, .ref (a 0)), (1, .long x1)]) hx hb d_R_labelOf_23 hl (k := 2) rfl (by rw [e9]; rfl) (by decide) rfl (fun ls hl => ?_)
        clear e9
        refine lv_goto (pc := 26) (tgt := 2) hx hb d_R_labelOf_26 (by decide) ?_
        exact K2 h hw (lv_sub hl [1, 2, 0] rfl)
      · replace h := h.1 c9
        refine lv_iload_n (pc := 21) hx hb d_R_labelOf_21 rfl (lv_at hl 2 rfl) ?_
        exact HR rfl d_R_labelOf_22 h hw
set_option maxHeartbeats 4000000 in
set_option maxRecDepth 100000 in
theorem e_R_labelOf (hX : XT X) (fx : CallFix p m c b_R_labelOf 4 s args GW RNR) {post : Int32 → SS → Prop} (HR : RetI p l e r_R_labelOf s m args below meth c Q D vcl (tyl cA) (wR cA a) X A b_R_labelOf .int post) {σ : SS} {x1 : Int64} {H : Heap} {locs : List Loc} {ls : Array Slot} (h : f_R_labelOf post σ x1) (hw : CX D vcl (tyl cA) (wR cA a σ) X A s H locs) (hl : lv_has ls 4 [(0, .ref (a 0)), (1, .long x1)]) : W p l e r_R_labelOf s m args below meth c H locs 0 0 Q (F0 m 0 ls []) := by
  have hx := fx.1
  have hb := fx.2.1
  unfold f_R_labelOf at h
  refine lv_iconst (pc := 0) (v := 0) hx hb d_R_labelOf_0 (by decide) ?_
  refine lv_istore_n (pc := 1) (lv' := [(3, .int 0), (0, .ref (a 0)), (1, .long x1)]) hx hb d_R_labelOf_1 rfl hl (by decide) rfl (fun ls hl => ?_)
  obtain ⟨n9, h⟩ := h
  exact c_R_labelOf_2 hX fx HR n9 h hw (lv_sub hl [1, 2, 0] rfl)
end
theorem c_R_labelOf {l : Launch} {D : va_G} {cA : Nat → ClassId} {a : Nat → Nat} {X : (Nat → Prop) → State → Prop} (hX : XT X) {σ : SS} {post : Int32 → SS → Prop} {x1 : Int64} (h : f_R_labelOf post σ x1) : mI l y_R_labelOf b_R_labelOf 4 (some .int) 0 0 D vcl (tyl cA) (wR cA a) X σ [.ref (a 0), .long x1] post := met_I (by decide) (Nat.le_of_ble_eq_true rfl) (fun p e s m args below meth c A Q fx HR H ls hw hl => e_R_labelOf hX fx HR h hw hl)
abbrev r_R_numberOf : Room := { frames := 2, cells := 0, slots := 0, locals := 53 }
def f_R_numberOf (post : Int32 → SS → Prop) (σ : SS) (x1 : Int64) : Prop := br ((lg_cmp x1 46) = 0) (post (σ.1 19) σ) (f_R_fixed (fun r_2 σ_1 => f_R_labelOf (fun r_4 σ_3 => br (r_2 < 0) (br (r_4 < 0) (post (-1) σ_3) (vp_in r_4 200 ∧ post (σ_3.2.1 11 r_4.toNatClampNeg) σ_3)) (post r_2 σ_3)) σ_1 x1) σ x1)
section
variable {p : Program} {l : Launch} {e : Env} {s : State} {m : MethodId} {args : Array Value} {below : List Frame} {meth : Method} {c : Code} {Q : State → Prop} {D : va_G} {cA : Nat → ClassId} {a : Nat → Nat} {X : (Nat → Prop) → State → Prop} {A : Nat → Prop}
set_option maxHeartbeats 4000000 in
set_option maxRecDepth 100000 in
theorem e_R_numberOf (hX : XT X) (fx : CallFix p m c b_R_numberOf 5 s args GW RNR) {post : Int32 → SS → Prop} (HR : RetI p l e r_R_numberOf s m args below meth c Q D vcl (tyl cA) (wR cA a) X A b_R_numberOf .int post) {σ : SS} {x1 : Int64} {H : Heap} {locs : List Loc} {ls : Array Slot} (h : f_R_numberOf post σ x1) (hw : CX D vcl (tyl cA) (wR cA a σ) X A s H locs) (hl : lv_has ls 5 [(0, .ref (a 0)), (1, .long x1)]) : W p l e r_R_numberOf s m args below meth c H locs 0 0 Q (F0 m 0 ls []) := by
  have hx := fx.1
  have hb := fx.2.1
  unfold f_R_numberOf at h
  refine lv_lload_n (pc := 0) hx hb d_R_numberOf_0 rfl (lv_at hl 1 rfl) ?_
  refine lv_ldc2 (pc := 1) (v := 46) hx hb fx.2.2.2.1 (fx.2.2.2.2 _ kw_1447) d_R_numberOf_1 ?_
  refine W.lcmp (pc := 4) hx hb d_R_numberOf_4 ?_
  refine lv_if_ne (pc := 5) (tgt := 13) hx hb d_R_numberOf_5 (by decide) (fun c9 => ?_) (fun c9 => ?_)
  · replace h := h.2 c9
    refine lv_lload_n (pc := 13) hx hb d_R_numberOf_13 rfl (lv_at hl 1 rfl) ?_
    refine cxSI (pc := 14) hX fx hw (c_R_fixed hX h) cw_R_340 rfl ⟨Nat.le_of_ble_eq_true rfl, Nat.le_of_ble_eq_true rfl⟩ hl.1 (Nat.le_of_ble_eq_true rfl) d_R_numberOf_14 ⟨Nat.zero_le _, Nat.zero_le _⟩ (fun r_2 σ_1 H locs hw h => ?_)
    refine lv_istore_n (pc := 17) (lv' := [(3, .int r_2), (0, .ref (a 0)), (1, .long x1)]) hx hb d_R_numberOf_17 rfl hl (by decide) rfl (fun ls hl => ?_)
    refine lv_aload_n (pc := 18) hx hb d_R_numberOf_18 rfl (lv_at hl 1 rfl) ?_
    refine lv_lload_n (pc := 19) hx hb d_R_numberOf_19 rfl (lv_at hl 2 rfl) ?_
    refine cxI (pc := 20) hX fx hw (c_R_labelOf hX h) cw_R_343 (rcR_0 hw) rfl ⟨Nat.le_of_ble_eq_true rfl, Nat.le_of_ble_eq_true rfl⟩ hl.1 (Nat.le_of_ble_eq_true rfl) d_R_numberOf_20 ⟨Nat.zero_le _, Nat.zero_le _⟩ (fun r_4 σ_3 H locs hw h => ?_)
    refine lv_istore (pc := 23) (lv' := [(4, .int r_4), (3, .int r_2), (0, .ref (a 0)), (1, .long x1)]) hx hb d_R_numberOf_23 hl (by decide) rfl (fun ls hl => ?_)
    refine lv_iload_n (pc := 25) hx hb d_R_numberOf_25 rfl (lv_at hl 1 rfl) ?_
    refine lv_if_lt (pc := 26) (tgt := 33) hx hb d_R_numberOf_26 (by decide) (fun c9 => ?_) (fun c9 => ?_)
    · replace h := h.1 c9
      refine lv_iload (pc := 33) hx hb d_R_numberOf_33 (lv_at hl 0 rfl) ?_
      refine lv_if_lt (pc := 35) (tgt := 48) hx hb d_R_numberOf_35 (by decide) (fun c9 => ?_) (fun c9 => ?_)
      · replace h := h.1 c9
        refine lv_iconst (pc := 48) (v := (-1)) hx hb d_R_numberOf_48 (by decide) ?_
        exact HR rfl d_R_numberOf_49 h hw
      · replace h := h.2 c9
        refine lv_aload_n (pc := 38) hx hb d_R_numberOf_38 rfl (lv_at hl 2 rfl) ?_
        refine gR_0_places (pc := 39) fx hw kw_1093 d_R_numberOf_39 ?_
        refine lv_iload (pc := 42) hx hb d_R_numberOf_42 (lv_at hl 0 rfl) ?_
        refine alR_11 (pc := 44) fx hw h.1 d_R_numberOf_44 ?_
        replace h := h.2
        refine lv_goto (pc := 45) (tgt := 49) hx hb d_R_numberOf_45 (by decide) ?_
        exact HR rfl d_R_numberOf_49 h hw
    · replace h := h.2 c9
      refine lv_iload_n (pc := 29) hx hb d_R_numberOf_29 rfl (lv_at hl 1 rfl) ?_
      refine lv_goto (pc := 30) (tgt := 49) hx hb d_R_numberOf_30 (by decide) ?_
      exact HR rfl d_R_numberOf_49 h hw
  · replace h := h.1 c9
    refine lv_aload_n (pc := 8) hx hb d_R_numberOf_8 rfl (lv_at hl 0 rfl) ?_
    refine gR_0_here (pc := 9) fx hw kw_1101 d_R_numberOf_9 ?_
    exact HR rfl d_R_numberOf_12 h hw
end
theorem c_R_numberOf {l : Launch} {D : va_G} {cA : Nat → ClassId} {a : Nat → Nat} {X : (Nat → Prop) → State → Prop} (hX : XT X) {σ : SS} {post : Int32 → SS → Prop} {x1 : Int64} (h : f_R_numberOf post σ x1) : mI l y_R_numberOf b_R_numberOf 5 (some .int) 2 53 D vcl (tyl cA) (wR cA a) X σ [.ref (a 0), .long x1] post := met_I (by decide) (Nat.le_of_ble_eq_true rfl) (fun p e s m args below meth c A Q fx HR H ls hw hl => e_R_numberOf hX fx HR h hw hl)
abbrev r_R_term : Room := { frames := 3, cells := 0, slots := 0, locals := 77 }
def f_R_term_58 (post : Int32 → SS → Prop) (σ : SS) (x1 : Int32) : Prop := f_R_next (fun r_2 σ_1 => post x1 σ_1) σ
def f_R_term (post : Int32 → SS → Prop) (σ : SS) : Prop := br ((σ.1 13) = 0) (nm (σ.1 23) fun x1_3 => br ((σ.1 22) = 1) (f_R_numberOf (fun r_7 σ_6 => br (0 ≤ r_7) (f_R_term_58 post σ_6 r_7) (f_R_stop (fun r_9 σ_8 => f_R_term_58 post σ_8 r_7) σ_6 3)) σ (σ.2.2.1 0)) (br ((σ.1 22) = 2) (f_R_term_58 post σ x1_3) (f_R_stop (fun r_5 σ_4 => f_R_term_58 post σ_4 x1_3) σ 2))) (post 0 σ)
section
variable {p : Program} {l : Launch} {e : Env} {s : State} {m : MethodId} {args : Array Value} {below : List Frame} {meth : Method} {c : Code} {Q : State → Prop} {D : va_G} {cA : Nat → ClassId} {a : Nat → Nat} {X : (Nat → Prop) → State → Prop} {A : Nat → Prop}
set_option maxHeartbeats 4000000 in
set_option maxRecDepth 100000 in
theorem c_R_term_58 (hX : XT X) (fx : CallFix p m c b_R_term 2 s args GW RNR) {post : Int32 → SS → Prop} (HR : RetI p l e r_R_term s m args below meth c Q D vcl (tyl cA) (wR cA a) X A b_R_term .int post) {σ : SS} {x1 : Int32} {H : Heap} {locs : List Loc} {ls : Array Slot} (h : f_R_term_58 post σ x1) (hw : CX D vcl (tyl cA) (wR cA a σ) X A s H locs) (hl : lv_has ls 2 [(0, .ref (a 0)), (1, .int x1)]) : W p l e r_R_term s m args below meth c H locs 0 0 Q (F0 m 58 ls []) := by
  have hx := fx.1
  have hb := fx.2.1
  unfold f_R_term_58 at h
  refine lv_aload_n (pc := 58) hx hb d_R_term_58 rfl (lv_at hl 0 rfl) ?_
  refine cxI (pc := 59) hX fx hw (c_R_next hX h) cw_R_349 (rcR_0 hw) rfl ⟨Nat.le_of_ble_eq_true rfl, Nat.le_of_ble_eq_true rfl⟩ hl.1 (Nat.le_of_ble_eq_true rfl) d_R_term_59 ⟨Nat.zero_le _, Nat.zero_le _⟩ (fun r_2 σ_1 H locs hw h => ?_)
  have zr_2 := h.1
  replace h := h.2
  refine lv_pop (pc := 62) hx hb d_R_term_62 rfl ?_
  refine lv_iload_n (pc := 63) hx hb d_R_term_63 rfl (lv_at hl 1 rfl) ?_
  exact HR rfl d_R_term_64 h hw
set_option maxHeartbeats 4000000 in
set_option maxRecDepth 100000 in
theorem e_R_term (hX : XT X) (fx : CallFix p m c b_R_term 2 s args GW RNR) {post : Int32 → SS → Prop} (HR : RetI p l e r_R_term s m args below meth c Q D vcl (tyl cA) (wR cA a) X A b_R_term .int post) {σ : SS} {H : Heap} {locs : List Loc} {ls : Array Slot} (h : f_R_term post σ) (hw : CX D vcl (tyl cA) (wR cA a σ) X A s H locs) (hl : lv_has ls 2 [(0, .ref (a 0))]) : W p l e r_R_term s m args below meth c H locs 0 0 Q (F0 m 0 ls []) := by
  have hx := fx.1
  have hb := fx.2.1
  unfold f_R_term at h
  refine lv_aload_n (pc := 0) hx hb d_R_term_0 rfl (lv_at hl 0 rfl) ?_
  refine gR_0_fault (pc := 1) fx hw kw_1089 d_R_term_1 ?_
  refine lv_if_eq (pc := 4) (tgt := 9) hx hb d_R_term_4 (by decide) (fun c9 => ?_) (fun c9 => ?_)
  · replace h := h.1 c9
    refine lv_aload_n (pc := 9) hx hb d_R_term_9 rfl (lv_at hl 0 rfl) ?_
    refine gR_0_value (pc := 10) fx hw kw_1105 d_R_term_10 ?_
    refine lv_topi (fun x1_3 e9 => ?_)
    replace h := nm_u h e9
    clear e9
    refine lv_istore_n (pc := 13) (lv' := [(1, .int x1_3), (0, .ref (a 0))]) hx hb d_R_term_13 rfl hl (by decide) rfl (fun ls hl => ?_)
    refine lv_aload_n (pc := 14) hx hb d_R_term_14 rfl (lv_at hl 1 rfl) ?_
    refine gR_0_kind (pc := 15) fx hw kw_1104 d_R_term_15 ?_
    refine lv_iconst (pc := 18) (v := 1) hx hb d_R_term_18 (by decide) ?_
    refine lv_icmp_ne (pc := 19) (tgt := 44) hx hb d_R_term_19 (by decide) (fun c9 => ?_) (fun c9 => ?_)
    · replace h := h.2 c9
      refine lv_aload_n (pc := 44) hx hb d_R_term_44 rfl (lv_at hl 1 rfl) ?_
      refine gR_0_kind (pc := 45) fx hw kw_1104 d_R_term_45 ?_
      refine lv_iconst (pc := 48) (v := 2) hx hb d_R_term_48 (by decide) ?_
      refine lv_icmp_eq (pc := 49) (tgt := 58) hx hb d_R_term_49 (by decide) (fun c9 => ?_) (fun c9 => ?_)
      · replace h := h.1 c9
        exact c_R_term_58 hX fx HR h hw (lv_sub hl [1, 0] rfl)
      · replace h := h.2 c9
        refine lv_aload_n (pc := 52) hx hb d_R_term_52 rfl (lv_at hl 1 rfl) ?_
        refine lv_iconst (pc := 53) (v := 2) hx hb d_R_term_53 (by decide) ?_
        refine cxI (pc := 54) hX fx hw (c_R_stop hX h) cw_R_191 (rcR_0 hw) rfl ⟨Nat.le_of_ble_eq_true rfl, Nat.le_of_ble_eq_true rfl⟩ hl.1 (Nat.le_of_ble_eq_true rfl) d_R_term_54 ⟨Nat.zero_le _, Nat.zero_le _⟩ (fun r_5 σ_4 H locs hw h => ?_)
        have zr_5 := h.1
        replace h := h.2
        refine lv_pop (pc := 57) hx hb d_R_term_57 rfl ?_
        exact c_R_term_58 hX fx HR h hw (lv_sub hl [1, 0] rfl)
    · replace h := h.1 c9
      refine lv_aload_n (pc := 22) hx hb d_R_term_22 rfl (lv_at hl 1 rfl) ?_
      refine lv_aload_n (pc := 23) hx hb d_R_term_23 rfl (lv_at hl 1 rfl) ?_
      refine gR_0_name (pc := 24) fx hw kw_1106 d_R_term_24 ?_
      refine cxI (pc := 27) hX fx hw (c_R_numberOf hX h) cw_R_346 (rcR_0 hw) rfl ⟨Nat.le_of_ble_eq_true rfl, Nat.le_of_ble_eq_true rfl⟩ hl.1 (Nat.le_of_ble_eq_true rfl) d_R_term_27 ⟨Nat.zero_le _, Nat.zero_le _⟩ (fun r_7 σ_6 H locs hw h => ?_)
      refine lv_istore_n (pc := 30) (lv' := [(1, .int r_7), (0, .ref (a 0))]) hx hb d_R_term_30 rfl hl (by decide) rfl (fun ls hl => ?_)
      refine lv_iload_n (pc := 31) hx hb d_R_term_31 rfl (lv_at hl 0 rfl) ?_
      refine lv_if_ge (pc := 32) (tgt := 58) hx hb d_R_term_32 (by decide) (fun c9 => ?_) (fun c9 => ?_)
      · replace h := h.1 c9
        exact c_R_term_58 hX fx HR h hw (lv_sub hl [1, 0] rfl)
      · replace h := h.2 c9
        refine lv_aload_n (pc := 35) hx hb d_R_term_35 rfl (lv_at hl 1 rfl) ?_
        refine lv_iconst (pc := 36) (v := 3) hx hb d_R_term_36 (by decide) ?_
        refine cxI (pc := 37) hX fx hw (c_R_stop hX h) cw_R_191 (rcR_0 hw) rfl ⟨Nat.le_of_ble_eq_true rfl, Nat.le_of_ble_eq_true rfl⟩ hl.1 (Nat.le_of_ble_eq_true rfl) d_R_term_37 ⟨Nat.zero_le _, Nat.zero_le _⟩ (fun r_9 σ_8 H locs hw h => ?_)
        have zr_9 := h.1
        replace h := h.2
        refine lv_pop (pc := 40) hx hb d_R_term_40 rfl ?_
        refine lv_goto (pc := 41) (tgt := 58) hx hb d_R_term_41 (by decide) ?_
        exact c_R_term_58 hX fx HR h hw (lv_sub hl [1, 0] rfl)
  · replace h := h.2 c9
    refine lv_iconst (pc := 7) (v := 0) hx hb d_R_term_7 (by decide) ?_
    exact HR rfl d_R_term_8 h hw
end
theorem c_R_term {l : Launch} {D : va_G} {cA : Nat → ClassId} {a : Nat → Nat} {X : (Nat → Prop) → State → Prop} (hX : XT X) {σ : SS} {post : Int32 → SS → Prop} (h : f_R_term post σ) : mI l y_R_term b_R_term 2 (some .int) 3 77 D vcl (tyl cA) (wR cA a) X σ [.ref (a 0)] post := met_I (by decide) (Nat.le_of_ble_eq_true rfl) (fun p e s m args below meth c A Q fx HR H ls hw hl => e_R_term hX fx HR h hw hl)
abbrev r_R_expression : Room := { frames := 4, cells := 0, slots := 0, locals := 98 }
def f_R_expression_100 (post : Int32 → SS → Prop) (σ : SS) (x2 : Int32) : Prop := post (((x2 - x2 / 65536 * 65536) + 65536) - ((x2 - x2 / 65536 * 65536) + 65536) / 65536 * 65536) σ
def f_R_expression_95 (post : Int32 → SS → Prop) (k42 : SS → Int32 → Prop) (σ : SS) (s0 : Int32) (s1 : Int32) : Prop := nm (s1 + s0) fun x2_1 => k42 σ x2_1
def f_R_expression_67 (post : Int32 → SS → Prop) (k42 : SS → Int32 → Prop) (σ : SS) (x2 : Int32) : Prop := f_R_isSign (fun r_3 σ_2 => f_R_next (fun r_5 σ_4 => f_R_term (fun r_7 σ_6 => br (r_3 = 0) (f_R_expression_95 post k42 σ_6 r_7 x2) (f_R_expression_95 post k42 σ_6 (-r_7) x2)) σ_4) σ_2) σ 45
def f_R_expression_42 (post : Int32 → SS → Prop) : Nat → SS → Int32 → Prop
  | 0, _, _ => False
  | n + 1, σ, x2 => br ((σ.1 13) = 0) (f_R_isSign (fun r_9 σ_8 => br (r_9 = 0) (f_R_isSign (fun r_11 σ_10 => br (r_11 = 0) (f_R_expression_100 post σ_10 x2) (f_R_expression_67 post (f_R_expression_42 post n) σ_10 x2)) σ_8 45) (f_R_expression_67 post (f_R_expression_42 post n) σ_8 x2)) σ 43) (f_R_expression_100 post σ x2)
def f_R_expression_41 (post : Int32 → SS → Prop) (σ : SS) (s0 : Int32) : Prop := ∃ n9, f_R_expression_42 post n9 σ s0
def f_R_expression_25 (post : Int32 → SS → Prop) (σ : SS) (x1 : Int32) : Prop := br (x1 = 0) (f_R_term (fun r_13 σ_12 => f_R_expression_41 post σ_12 r_13) σ) (f_R_term (fun r_15 σ_14 => f_R_expression_41 post σ_14 (-r_15)) σ)
def f_R_expression_20 (post : Int32 → SS → Prop) (σ : SS) (x1 : Int32) : Prop := f_R_next (fun r_17 σ_16 => f_R_expression_25 post σ_16 x1) σ
def f_R_expression (post : Int32 → SS → Prop) (σ : SS) : Prop := f_R_isSign (fun r_19 σ_18 => f_R_isSign (fun r_21 σ_20 => br (r_21 = 0) (br (r_19 = 0) (f_R_expression_25 post σ_20 r_19) (f_R_expression_20 post σ_20 r_19)) (f_R_expression_20 post σ_20 r_19)) σ_18 43) σ 45
section
variable {p : Program} {l : Launch} {e : Env} {s : State} {m : MethodId} {args : Array Value} {below : List Frame} {meth : Method} {c : Code} {Q : State → Prop} {D : va_G} {cA : Nat → ClassId} {a : Nat → Nat} {X : (Nat → Prop) → State → Prop} {A : Nat → Prop}
set_option maxHeartbeats 4000000 in
set_option maxRecDepth 100000 in
theorem c_R_expression_100 (hX : XT X) (fx : CallFix p m c b_R_expression 4 s args GW RNR) {post : Int32 → SS → Prop} (HR : RetI p l e r_R_expression s m args below meth c Q D vcl (tyl cA) (wR cA a) X A b_R_expression .int post) {σ : SS} {x2 : Int32} {H : Heap} {locs : List Loc} {ls : Array Slot} (h : f_R_expression_100 post σ x2) (hw : CX D vcl (tyl cA) (wR cA a σ) X A s H locs) (hl : lv_has ls 4 [(2, .int x2)]) : W p l e r_R_expression s m args below meth c H locs 0 0 Q (F0 m 100 ls []) := by
  have hx := fx.1
  have hb := fx.2.1
  unfold f_R_expression_100 at h
  refine lv_iload_n (pc := 100) hx hb d_R_expression_100 rfl (lv_at hl 0 rfl) ?_
  refine lv_ldc (pc := 101) (v := 65536) hx hb fx.2.2.2.1 (fx.2.2.2.2 _ kw_1288) d_R_expression_101 ?_
  refine lv_irem (pc := 103) hx hb d_R_expression_103 (by decide) ?_
  refine lv_ldc (pc := 104) (v := 65536) hx hb fx.2.2.2.1 (fx.2.2.2.2 _ kw_1288) d_R_expression_104 ?_
  refine lv_iadd (pc := 106) hx hb d_R_expression_106 ?_
  refine lv_ldc (pc := 107) (v := 65536) hx hb fx.2.2.2.1 (fx.2.2.2.2 _ kw_1288) d_R_expression_107 ?_
  refine lv_irem (pc := 109) hx hb d_R_expression_109 (by decide) ?_
  exact HR rfl d_R_expression_110 h hw
set_option maxHeartbeats 4000000 in
set_option maxRecDepth 100000 in
theorem c_R_expression_95 (hX : XT X) (fx : CallFix p m c b_R_expression 4 s args GW RNR) {post : Int32 → SS → Prop} (HR : RetI p l e r_R_expression s m args below meth c Q D vcl (tyl cA) (wR cA a) X A b_R_expression .int post) {k42 : SS → Int32 → Prop} (K42 : ∀ {σ : SS} {x2 : Int32} {H : Heap} {locs : List Loc} {ls : Array Slot}, k42 σ x2 → CX D vcl (tyl cA) (wR cA a σ) X A s H locs → lv_has ls 4 [(0, .ref (a 0)), (2, .int x2)] → W p l e r_R_expression s m args below meth c H locs 0 0 Q (F0 m 42 ls [])) {σ : SS} {s0 : Int32} {s1 : Int32} {H : Heap} {locs : List Loc} {ls : Array Slot} (h : f_R_expression_95 post k42 σ s0 s1) (hw : CX D vcl (tyl cA) (wR cA a σ) X A s H locs) (hl : lv_has ls 4 [(0, .ref (a 0))]) : W p l e r_R_expression s m args below meth c H locs 0 0 Q (F0 m 95 ls [.int s0, .int s1]) := by
  have hx := fx.1
  have hb := fx.2.1
  unfold f_R_expression_95 at h
  refine lv_iadd (pc := 95) hx hb d_R_expression_95 ?_
  refine lv_topi (fun x2_1 e9 => ?_)
  replace h := nm_u h e9
  clear e9
  refine lv_istore_n (pc := 96) (lv' := [(2, .int x2_1), (0, .ref (a 0))]) hx hb d_R_expression_96 rfl hl (by decide) rfl (fun ls hl => ?_)
  refine lv_goto (pc := 97) (tgt := 42) hx hb d_R_expression_97 (by decide) ?_
  exact K42 h hw (lv_sub hl [1, 0] rfl)
set_option maxHeartbeats 4000000 in
set_option maxRecDepth 100000 in
theorem c_R_expression_67 (hX : XT X) (fx : CallFix p m c b_R_expression 4 s args GW RNR) {post : Int32 → SS → Prop} (HR : RetI p l e r_R_expression s m args below meth c Q D vcl (tyl cA) (wR cA a) X A b_R_expression .int post) {k42 : SS → Int32 → Prop} (K42 : ∀ {σ : SS} {x2 : Int32} {H : Heap} {locs : List Loc} {ls : Array Slot}, k42 σ x2 → CX D vcl (tyl cA) (wR cA a σ) X A s H locs → lv_has ls 4 [(0, .ref (a 0)), (2, .int x2)] → W p l e r_R_expression s m args below meth c H locs 0 0 Q (F0 m 42 ls [])) {σ : SS} {x2 : Int32} {H : Heap} {locs : List Loc} {ls : Array Slot} (h : f_R_expression_67 post k42 σ x2) (hw : CX D vcl (tyl cA) (wR cA a σ) X A s H locs) (hl : lv_has ls 4 [(0, .ref (a 0)), (2, .int x2)]) : W p l e r_R_expression s m args below meth c H locs 0 0 Q (F0 m 67 ls []) := by
  have hx := fx.1
  have hb := fx.2.1
  unfold f_R_expression_67 at h
  refine lv_aload_n (pc := 67) hx hb d_R_expression_67 rfl (lv_at hl 0 rfl) ?_
  refine lv_bipush (pc := 68) (v := 45) hx hb d_R_expression_68 (by decide) ?_
  refine cxI (pc := 70) hX fx hw (c_R_isSign hX h) cw_R_352 (rcR_0 hw) rfl ⟨Nat.le_of_ble_eq_true rfl, Nat.le_of_ble_eq_true rfl⟩ hl.1 (Nat.le_of_ble_eq_true rfl) d_R_expression_70 ⟨Nat.zero_le _, Nat.zero_le _⟩ (fun r_3 σ_2 H locs hw h => ?_)
  have zr_3 := h.1
  replace h := h.2
  refine lv_istore_n (pc := 73) (lv' := [(1, .int r_3), (0, .ref (a 0)), (2, .int x2)]) hx hb d_R_expression_73 rfl hl (by decide) rfl (fun ls hl => ?_)
  refine lv_aload_n (pc := 74) hx hb d_R_expression_74 rfl (lv_at hl 1 rfl) ?_
  refine cxI (pc := 75) hX fx hw (c_R_next hX h) cw_R_349 (rcR_0 hw) rfl ⟨Nat.le_of_ble_eq_true rfl, Nat.le_of_ble_eq_true rfl⟩ hl.1 (Nat.le_of_ble_eq_true rfl) d_R_expression_75 ⟨Nat.zero_le _, Nat.zero_le _⟩ (fun r_5 σ_4 H locs hw h => ?_)
  have zr_5 := h.1
  replace h := h.2
  refine lv_pop (pc := 78) hx hb d_R_expression_78 rfl ?_
  refine lv_aload_n (pc := 79) hx hb d_R_expression_79 rfl (lv_at hl 1 rfl) ?_
  refine cxI (pc := 80) hX fx hw (c_R_term hX h) cw_R_355 (rcR_0 hw) rfl ⟨Nat.le_of_ble_eq_true rfl, Nat.le_of_ble_eq_true rfl⟩ hl.1 (Nat.le_of_ble_eq_true rfl) d_R_expression_80 ⟨Nat.zero_le _, Nat.zero_le _⟩ (fun r_7 σ_6 H locs hw h => ?_)
  refine lv_istore_n (pc := 83) (lv' := [(3, .int r_7), (1, .int r_3), (0, .ref (a 0)), (2, .int x2)]) hx hb d_R_expression_83 rfl hl (by decide) rfl (fun ls hl => ?_)
  refine lv_iload_n (pc := 84) hx hb d_R_expression_84 rfl (lv_at hl 3 rfl) ?_
  refine lv_iload_n (pc := 85) hx hb d_R_expression_85 rfl (lv_at hl 1 rfl) ?_
  refine lv_if_eq (pc := 86) (tgt := 94) hx hb d_R_expression_86 (by decide) (fun c9 => ?_) (fun c9 => ?_)
  · replace h := h.1 c9
    refine lv_iload_n (pc := 94) hx hb d_R_expression_94 rfl (lv_at hl 0 rfl) ?_
    exact c_R_expression_95 hX fx HR K42 h hw (lv_sub hl [2] rfl)
  · replace h := h.2 c9
    refine lv_iload_n (pc := 89) hx hb d_R_expression_89 rfl (lv_at hl 0 rfl) ?_
    refine lv_ineg (pc := 90) hx hb d_R_expression_90 ?_
    refine lv_goto (pc := 91) (tgt := 95) hx hb d_R_expression_91 (by decide) ?_
    exact c_R_expression_95 hX fx HR K42 h hw (lv_sub hl [2] rfl)
set_option maxHeartbeats 4000000 in
set_option maxRecDepth 100000 in
theorem c_R_expression_42 (hX : XT X) (fx : CallFix p m c b_R_expression 4 s args GW RNR) {post : Int32 → SS → Prop} (HR : RetI p l e r_R_expression s m args below meth c Q D vcl (tyl cA) (wR cA a) X A b_R_expression .int post) : ∀ (n : Nat) {σ : SS} {x2 : Int32} {H : Heap} {locs : List Loc} {ls : Array Slot}, f_R_expression_42 post n σ x2 → CX D vcl (tyl cA) (wR cA a σ) X A s H locs → lv_has ls 4 [(0, .ref (a 0)), (2, .int x2)] → W p l e r_R_expression s m args below meth c H locs 0 0 Q (F0 m 42 ls []) := by
  have hx := fx.1
  have hb := fx.2.1
  intro n
  induction n with
  | zero => intro σ x2 H locs ls h; exact h.elim
  | succ n ih =>
    intro σ x2 H locs ls h hw hl
    have K42 := @ih
    unfold f_R_expression_42 at h
    refine lv_aload_n (pc := 42) hx hb d_R_expression_42 rfl (lv_at hl 0 rfl) ?_
    refine gR_0_fault (pc := 43) fx hw kw_1089 d_R_expression_43 ?_
    refine lv_if_ne (pc := 46) (tgt := 100) hx hb d_R_expression_46 (by decide) (fun c9 => ?_) (fun c9 => ?_)
    · replace h := h.2 c9
      exact c_R_expression_100 hX fx HR h hw (lv_sub hl [1] rfl)
    · replace h := h.1 c9
      refine lv_aload_n (pc := 49) hx hb d_R_expression_49 rfl (lv_at hl 0 rfl) ?_
      refine lv_bipush (pc := 50) (v := 43) hx hb d_R_expression_50 (by decide) ?_
      refine cxI (pc := 52) hX fx hw (c_R_isSign hX h) cw_R_352 (rcR_0 hw) rfl ⟨Nat.le_of_ble_eq_true rfl, Nat.le_of_ble_eq_true rfl⟩ hl.1 (Nat.le_of_ble_eq_true rfl) d_R_expression_52 ⟨Nat.zero_le _, Nat.zero_le _⟩ (fun r_9 σ_8 H locs hw h => ?_)
      have zr_9 := h.1
      replace h := h.2
      refine lv_if_ne (pc := 55) (tgt := 67) hx hb d_R_expression_55 (by decide) (fun c9 => ?_) (fun c9 => ?_)
      · replace h := h.2 c9
        exact c_R_expression_67 hX fx HR K42 h hw (lv_sub hl [0, 1] rfl)
      · replace h := h.1 c9
        refine lv_aload_n (pc := 58) hx hb d_R_expression_58 rfl (lv_at hl 0 rfl) ?_
        refine lv_bipush (pc := 59) (v := 45) hx hb d_R_expression_59 (by decide) ?_
        refine cxI (pc := 61) hX fx hw (c_R_isSign hX h) cw_R_352 (rcR_0 hw) rfl ⟨Nat.le_of_ble_eq_true rfl, Nat.le_of_ble_eq_true rfl⟩ hl.1 (Nat.le_of_ble_eq_true rfl) d_R_expression_61 ⟨Nat.zero_le _, Nat.zero_le _⟩ (fun r_11 σ_10 H locs hw h => ?_)
        have zr_11 := h.1
        replace h := h.2
        refine lv_if_eq (pc := 64) (tgt := 100) hx hb d_R_expression_64 (by decide) (fun c9 => ?_) (fun c9 => ?_)
        · replace h := h.1 c9
          exact c_R_expression_100 hX fx HR h hw (lv_sub hl [1] rfl)
        · replace h := h.2 c9
          exact c_R_expression_67 hX fx HR K42 h hw (lv_sub hl [0, 1] rfl)
set_option maxHeartbeats 4000000 in
set_option maxRecDepth 100000 in
theorem c_R_expression_41 (hX : XT X) (fx : CallFix p m c b_R_expression 4 s args GW RNR) {post : Int32 → SS → Prop} (HR : RetI p l e r_R_expression s m args below meth c Q D vcl (tyl cA) (wR cA a) X A b_R_expression .int post) {σ : SS} {s0 : Int32} {H : Heap} {locs : List Loc} {ls : Array Slot} (h : f_R_expression_41 post σ s0) (hw : CX D vcl (tyl cA) (wR cA a σ) X A s H locs) (hl : lv_has ls 4 [(0, .ref (a 0))]) : W p l e r_R_expression s m args below meth c H locs 0 0 Q (F0 m 41 ls [.int s0]) := by
  have hx := fx.1
  have hb := fx.2.1
  unfold f_R_expression_41 at h
  refine lv_istore_n (pc := 41) (lv' := [(2, .int s0), (0, .ref (a 0))]) hx hb d_R_expression_41 rfl hl (by decide) rfl (fun ls hl => ?_)
  obtain ⟨n9, h⟩ := h
  exact c_R_expression_42 hX fx HR n9 h hw (lv_sub hl [1, 0] rfl)
set_option maxHeartbeats 4000000 in
set_option maxRecDepth 100000 in
theorem c_R_expression_25 (hX : XT X) (fx : CallFix p m c b_R_expression 4 s args GW RNR) {post : Int32 → SS → Prop} (HR : RetI p l e r_R_expression s m args below meth c Q D vcl (tyl cA) (wR cA a) X A b_R_expression .int post) {σ : SS} {x1 : Int32} {H : Heap} {locs : List Loc} {ls : Array Slot} (h : f_R_expression_25 post σ x1) (hw : CX D vcl (tyl cA) (wR cA a σ) X A s H locs) (hl : lv_has ls 4 [(0, .ref (a 0)), (1, .int x1)]) : W p l e r_R_expression s m args below meth c H locs 0 0 Q (F0 m 25 ls []) := by
  have hx := fx.1
  have hb := fx.2.1
  unfold f_R_expression_25 at h
  refine lv_iload_n (pc := 25) hx hb d_R_expression_25 rfl (lv_at hl 1 rfl) ?_
  refine lv_if_eq (pc := 26) (tgt := 37) hx hb d_R_expression_26 (by decide) (fun c9 => ?_) (fun c9 => ?_)
  · replace h := h.1 c9
    refine lv_aload_n (pc := 37) hx hb d_R_expression_37 rfl (lv_at hl 0 rfl) ?_
    refine cxI (pc := 38) hX fx hw (c_R_term hX h) cw_R_355 (rcR_0 hw) rfl ⟨Nat.le_of_ble_eq_true rfl, Nat.le_of_ble_eq_true rfl⟩ hl.1 (Nat.le_of_ble_eq_true rfl) d_R_expression_38 ⟨Nat.zero_le _, Nat.zero_le _⟩ (fun r_13 σ_12 H locs hw h => ?_)
    exact c_R_expression_41 hX fx HR h hw (lv_sub hl [0] rfl)
  · replace h := h.2 c9
    refine lv_aload_n (pc := 29) hx hb d_R_expression_29 rfl (lv_at hl 0 rfl) ?_
    refine cxI (pc := 30) hX fx hw (c_R_term hX h) cw_R_355 (rcR_0 hw) rfl ⟨Nat.le_of_ble_eq_true rfl, Nat.le_of_ble_eq_true rfl⟩ hl.1 (Nat.le_of_ble_eq_true rfl) d_R_expression_30 ⟨Nat.zero_le _, Nat.zero_le _⟩ (fun r_15 σ_14 H locs hw h => ?_)
    refine lv_ineg (pc := 33) hx hb d_R_expression_33 ?_
    refine lv_goto (pc := 34) (tgt := 41) hx hb d_R_expression_34 (by decide) ?_
    exact c_R_expression_41 hX fx HR h hw (lv_sub hl [0] rfl)
set_option maxHeartbeats 4000000 in
set_option maxRecDepth 100000 in
theorem c_R_expression_20 (hX : XT X) (fx : CallFix p m c b_R_expression 4 s args GW RNR) {post : Int32 → SS → Prop} (HR : RetI p l e r_R_expression s m args below meth c Q D vcl (tyl cA) (wR cA a) X A b_R_expression .int post) {σ : SS} {x1 : Int32} {H : Heap} {locs : List Loc} {ls : Array Slot} (h : f_R_expression_20 post σ x1) (hw : CX D vcl (tyl cA) (wR cA a σ) X A s H locs) (hl : lv_has ls 4 [(0, .ref (a 0)), (1, .int x1)]) : W p l e r_R_expression s m args below meth c H locs 0 0 Q (F0 m 20 ls []) := by
  have hx := fx.1
  have hb := fx.2.1
  unfold f_R_expression_20 at h
  refine lv_aload_n (pc := 20) hx hb d_R_expression_20 rfl (lv_at hl 0 rfl) ?_
  refine cxI (pc := 21) hX fx hw (c_R_next hX h) cw_R_349 (rcR_0 hw) rfl ⟨Nat.le_of_ble_eq_true rfl, Nat.le_of_ble_eq_true rfl⟩ hl.1 (Nat.le_of_ble_eq_true rfl) d_R_expression_21 ⟨Nat.zero_le _, Nat.zero_le _⟩ (fun r_17 σ_16 H locs hw h => ?_)
  have zr_17 := h.1
  replace h := h.2
  refine lv_pop (pc := 24) hx hb d_R_expression_24 rfl ?_
  exact c_R_expression_25 hX fx HR h hw (lv_sub hl [0, 1] rfl)
set_option maxHeartbeats 4000000 in
set_option maxRecDepth 100000 in
theorem e_R_expression (hX : XT X) (fx : CallFix p m c b_R_expression 4 s args GW RNR) {post : Int32 → SS → Prop} (HR : RetI p l e r_R_expression s m args below meth c Q D vcl (tyl cA) (wR cA a) X A b_R_expression .int post) {σ : SS} {H : Heap} {locs : List Loc} {ls : Array Slot} (h : f_R_expression post σ) (hw : CX D vcl (tyl cA) (wR cA a σ) X A s H locs) (hl : lv_has ls 4 [(0, .ref (a 0))]) : W p l e r_R_expression s m args below meth c H locs 0 0 Q (F0 m 0 ls []) := by
  have hx := fx.1
  have hb := fx.2.1
  unfold f_R_expression at h
  refine lv_aload_n (pc := 0) hx hb d_R_expression_0 rfl (lv_at hl 0 rfl) ?_
  refine lv_bipush (pc := 1) (v := 45) hx hb d_R_expression_1 (by decide) ?_
  refine cxI (pc := 3) hX fx hw (c_R_isSign hX h) cw_R_352 (rcR_0 hw) rfl ⟨Nat.le_of_ble_eq_true rfl, Nat.le_of_ble_eq_true rfl⟩ hl.1 (Nat.le_of_ble_eq_true rfl) d_R_expression_3 ⟨Nat.zero_le _, Nat.zero_le _⟩ (fun r_19 σ_18 H locs hw h => ?_)
  have zr_19 := h.1
  replace h := h.2
  refine lv_istore_n (pc := 6) (lv' := [(1, .int r_19), (0, .ref (a 0))]) hx hb d_R_expression_6 rfl hl (by decide) rfl (fun ls hl => ?_)
  refine lv_aload_n (pc := 7) hx hb d_R_expression_7 rfl (lv_at hl 1 rfl) ?_
  refine lv_bipush (pc := 8) (v := 43) hx hb d_R_expression_8 (by decide) ?_
  refine cxI (pc := 10) hX fx hw (c_R_isSign hX h) cw_R_352 (rcR_0 hw) rfl ⟨Nat.le_of_ble_eq_true rfl, Nat.le_of_ble_eq_true rfl⟩ hl.1 (Nat.le_of_ble_eq_true rfl) d_R_expression_10 ⟨Nat.zero_le _, Nat.zero_le _⟩ (fun r_21 σ_20 H locs hw h => ?_)
  have zr_21 := h.1
  replace h := h.2
  refine lv_if_ne (pc := 13) (tgt := 20) hx hb d_R_expression_13 (by decide) (fun c9 => ?_) (fun c9 => ?_)
  · replace h := h.2 c9
    exact c_R_expression_20 hX fx HR h hw (lv_sub hl [1, 0] rfl)
  · replace h := h.1 c9
    refine lv_iload_n (pc := 16) hx hb d_R_expression_16 rfl (lv_at hl 0 rfl) ?_
    refine lv_if_eq (pc := 17) (tgt := 25) hx hb d_R_expression_17 (by decide) (fun c9 => ?_) (fun c9 => ?_)
    · replace h := h.1 c9
      exact c_R_expression_25 hX fx HR h hw (lv_sub hl [1, 0] rfl)
    · replace h := h.2 c9
      exact c_R_expression_20 hX fx HR h hw (lv_sub hl [1, 0] rfl)
end
theorem c_R_expression {l : Launch} {D : va_G} {cA : Nat → ClassId} {a : Nat → Nat} {X : (Nat → Prop) → State → Prop} (hX : XT X) {σ : SS} {post : Int32 → SS → Prop} (h : f_R_expression post σ) : mI l y_R_expression b_R_expression 4 (some .int) 4 98 D vcl (tyl cA) (wR cA a) X σ [.ref (a 0)] post := met_I (by decide) (Nat.le_of_ble_eq_true rfl) (fun p e s m args below meth c A Q fx HR H ls hw hl => e_R_expression hX fx HR h hw hl)
abbrev r_R_comma : Room := { frames := 2, cells := 0, slots := 0, locals := 44 }
def f_R_comma_23 (post : SS → Prop) (σ : SS) : Prop := f_R_next (fun r_2 σ_1 => post σ_1) σ
def f_R_comma (post : SS → Prop) (σ : SS) : Prop := br ((σ.1 13) = 0) (f_R_isSign (fun r_4 σ_3 => br (r_4 = 0) (f_R_stop (fun r_6 σ_5 => f_R_comma_23 post σ_5) σ_3 2) (f_R_comma_23 post σ_3)) σ 44) (post σ)
section
variable {p : Program} {l : Launch} {e : Env} {s : State} {m : MethodId} {args : Array Value} {below : List Frame} {meth : Method} {c : Code} {Q : State → Prop} {D : va_G} {cA : Nat → ClassId} {a : Nat → Nat} {X : (Nat → Prop) → State → Prop} {A : Nat → Prop}
set_option maxHeartbeats 4000000 in
set_option maxRecDepth 100000 in
theorem c_R_comma_23 (hX : XT X) (fx : CallFix p m c b_R_comma 1 s args GW RNR) {post : SS → Prop} (HR : RetV p l e r_R_comma s m args below meth c Q D vcl (tyl cA) (wR cA a) X A b_R_comma post) {σ : SS} {H : Heap} {locs : List Loc} {ls : Array Slot} (h : f_R_comma_23 post σ) (hw : CX D vcl (tyl cA) (wR cA a σ) X A s H locs) (hl : lv_has ls 1 [(0, .ref (a 0))]) : W p l e r_R_comma s m args below meth c H locs 0 0 Q (F0 m 23 ls []) := by
  have hx := fx.1
  have hb := fx.2.1
  unfold f_R_comma_23 at h
  refine lv_aload_n (pc := 23) hx hb d_R_comma_23 rfl (lv_at hl 0 rfl) ?_
  refine cxI (pc := 24) hX fx hw (c_R_next hX h) cw_R_349 (rcR_0 hw) rfl ⟨Nat.le_of_ble_eq_true rfl, Nat.le_of_ble_eq_true rfl⟩ hl.1 (Nat.le_of_ble_eq_true rfl) d_R_comma_24 ⟨Nat.zero_le _, Nat.zero_le _⟩ (fun r_2 σ_1 H locs hw h => ?_)
  have zr_2 := h.1
  replace h := h.2
  refine lv_pop (pc := 27) hx hb d_R_comma_27 rfl ?_
  exact HR d_R_comma_28 h hw
set_option maxHeartbeats 4000000 in
set_option maxRecDepth 100000 in
theorem e_R_comma (hX : XT X) (fx : CallFix p m c b_R_comma 1 s args GW RNR) {post : SS → Prop} (HR : RetV p l e r_R_comma s m args below meth c Q D vcl (tyl cA) (wR cA a) X A b_R_comma post) {σ : SS} {H : Heap} {locs : List Loc} {ls : Array Slot} (h : f_R_comma post σ) (hw : CX D vcl (tyl cA) (wR cA a σ) X A s H locs) (hl : lv_has ls 1 [(0, .ref (a 0))]) : W p l e r_R_comma s m args below meth c H locs 0 0 Q (F0 m 0 ls []) := by
  have hx := fx.1
  have hb := fx.2.1
  unfold f_R_comma at h
  refine lv_aload_n (pc := 0) hx hb d_R_comma_0 rfl (lv_at hl 0 rfl) ?_
  refine gR_0_fault (pc := 1) fx hw kw_1089 d_R_comma_1 ?_
  refine lv_if_eq (pc := 4) (tgt := 8) hx hb d_R_comma_4 (by decide) (fun c9 => ?_) (fun c9 => ?_)
  · replace h := h.1 c9
    refine lv_aload_n (pc := 8) hx hb d_R_comma_8 rfl (lv_at hl 0 rfl) ?_
    refine lv_bipush (pc := 9) (v := 44) hx hb d_R_comma_9 (by decide) ?_
    refine cxI (pc := 11) hX fx hw (c_R_isSign hX h) cw_R_352 (rcR_0 hw) rfl ⟨Nat.le_of_ble_eq_true rfl, Nat.le_of_ble_eq_true rfl⟩ hl.1 (Nat.le_of_ble_eq_true rfl) d_R_comma_11 ⟨Nat.zero_le _, Nat.zero_le _⟩ (fun r_4 σ_3 H locs hw h => ?_)
    have zr_4 := h.1
    replace h := h.2
    refine lv_if_ne (pc := 14) (tgt := 23) hx hb d_R_comma_14 (by decide) (fun c9 => ?_) (fun c9 => ?_)
    · replace h := h.2 c9
      exact c_R_comma_23 hX fx HR h hw (lv_sub hl [0] rfl)
    · replace h := h.1 c9
      refine lv_aload_n (pc := 17) hx hb d_R_comma_17 rfl (lv_at hl 0 rfl) ?_
      refine lv_iconst (pc := 18) (v := 2) hx hb d_R_comma_18 (by decide) ?_
      refine cxI (pc := 19) hX fx hw (c_R_stop hX h) cw_R_191 (rcR_0 hw) rfl ⟨Nat.le_of_ble_eq_true rfl, Nat.le_of_ble_eq_true rfl⟩ hl.1 (Nat.le_of_ble_eq_true rfl) d_R_comma_19 ⟨Nat.zero_le _, Nat.zero_le _⟩ (fun r_6 σ_5 H locs hw h => ?_)
      have zr_6 := h.1
      replace h := h.2
      refine lv_pop (pc := 22) hx hb d_R_comma_22 rfl ?_
      exact c_R_comma_23 hX fx HR h hw (lv_sub hl [0] rfl)
  · replace h := h.2 c9
    exact HR d_R_comma_7 h hw
end
theorem c_R_comma {l : Launch} {D : va_G} {cA : Nat → ClassId} {a : Nat → Nat} {X : (Nat → Prop) → State → Prop} (hX : XT X) {σ : SS} {post : SS → Prop} (h : f_R_comma post σ) : mV l y_R_comma b_R_comma 1 none 2 44 D vcl (tyl cA) (wR cA a) X σ [.ref (a 0)] post := met_V (by decide) (Nat.le_of_ble_eq_true rfl) (fun p e s m args below meth c A Q fx HR H ls hw hl => e_R_comma hX fx HR h hw hl)
abbrev r_R_bounded : Room := { frames := 5, cells := 0, slots := 0, locals := 121 }
def f_R_bounded (post : Int32 → SS → Prop) (σ : SS) (x1 : Int32) : Prop := f_R_expression (fun r_2 σ_1 => vp_in (σ_1.1 24) 8 ∧ nm (sA σ_1 16 (σ_1.1 24).toNatClampNeg r_2) fun σ_3 => vp_in (σ_3.1 24) 8 ∧ nm (sA σ_3 17 (σ_3.1 24).toNatClampNeg x1) fun σ_4 => nm (sI σ_4 24 ((σ_4.1 24) + 1)) fun σ_5 => post r_2 σ_5) σ
section
variable {p : Program} {l : Launch} {e : Env} {s : State} {m : MethodId} {args : Array Value} {below : List Frame} {meth : Method} {c : Code} {Q : State → Prop} {D : va_G} {cA : Nat → ClassId} {a : Nat → Nat} {X : (Nat → Prop) → State → Prop} {A : Nat → Prop}
set_option maxHeartbeats 4000000 in
set_option maxRecDepth 100000 in
theorem e_R_bounded (hX : XT X) (fx : CallFix p m c b_R_bounded 3 s args GW RNR) {post : Int32 → SS → Prop} (HR : RetI p l e r_R_bounded s m args below meth c Q D vcl (tyl cA) (wR cA a) X A b_R_bounded .int post) {σ : SS} {x1 : Int32} {H : Heap} {locs : List Loc} {ls : Array Slot} (h : f_R_bounded post σ x1) (hw : CX D vcl (tyl cA) (wR cA a σ) X A s H locs) (hl : lv_has ls 3 [(0, .ref (a 0)), (1, .int x1)]) : W p l e r_R_bounded s m args below meth c H locs 0 0 Q (F0 m 0 ls []) := by
  have hx := fx.1
  have hb := fx.2.1
  unfold f_R_bounded at h
  refine lv_aload_n (pc := 0) hx hb d_R_bounded_0 rfl (lv_at hl 0 rfl) ?_
  refine cxI (pc := 1) hX fx hw (c_R_expression hX h) cw_R_358 (rcR_0 hw) rfl ⟨Nat.le_of_ble_eq_true rfl, Nat.le_of_ble_eq_true rfl⟩ hl.1 (Nat.le_of_ble_eq_true rfl) d_R_bounded_1 ⟨Nat.zero_le _, Nat.zero_le _⟩ (fun r_2 σ_1 H locs hw h => ?_)
  refine lv_istore_n (pc := 4) (lv' := [(2, .int r_2), (0, .ref (a 0)), (1, .int x1)]) hx hb d_R_bounded_4 rfl hl (by decide) rfl (fun ls hl => ?_)
  refine lv_aload_n (pc := 5) hx hb d_R_bounded_5 rfl (lv_at hl 1 rfl) ?_
  refine gR_0_asked (pc := 6) fx hw kw_1107 d_R_bounded_6 ?_
  refine lv_aload_n (pc := 9) hx hb d_R_bounded_9 rfl (lv_at hl 1 rfl) ?_
  refine gR_0_askedCount (pc := 10) fx hw kw_1109 d_R_bounded_10 ?_
  refine lv_iload_n (pc := 13) hx hb d_R_bounded_13 rfl (lv_at hl 0 rfl) ?_
  refine asR_16 (pc := 14) fx hw h.1 d_R_bounded_14 (fun σ_3 e9 H locs hw => ?_)
  replace h := nm_u h.2 e9
  clear e9
  refine lv_aload_n (pc := 15) hx hb d_R_bounded_15 rfl (lv_at hl 1 rfl) ?_
  refine gR_0_bounds (pc := 16) fx hw kw_1108 d_R_bounded_16 ?_
  refine lv_aload_n (pc := 19) hx hb d_R_bounded_19 rfl (lv_at hl 1 rfl) ?_
  refine gR_0_askedCount (pc := 20) fx hw kw_1109 d_R_bounded_20 ?_
  refine lv_iload_n (pc := 23) hx hb d_R_bounded_23 rfl (lv_at hl 2 rfl) ?_
  refine asR_17 (pc := 24) fx hw h.1 d_R_bounded_24 (fun σ_4 e9 H locs hw => ?_)
  replace h := nm_u h.2 e9
  clear e9
  refine lv_aload_n (pc := 25) hx hb d_R_bounded_25 rfl (lv_at hl 1 rfl) ?_
  refine lv_dup (pc := 26) hx hb d_R_bounded_26 rfl ?_
  refine gR_0_askedCount (pc := 27) fx hw kw_1109 d_R_bounded_27 ?_
  refine lv_iconst (pc := 30) (v := 1) hx hb d_R_bounded_30 (by decide) ?_
  refine lv_iadd (pc := 31) hx hb d_R_bounded_31 ?_
  refine pR_0_askedCount (pc := 32) fx hw kw_1109 d_R_bounded_32 (fun σ_5 e9 H locs hw => ?_)
  replace h := nm_u h e9
  clear e9
  refine lv_iload_n (pc := 35) hx hb d_R_bounded_35 rfl (lv_at hl 0 rfl) ?_
  exact HR rfl d_R_bounded_36 h hw
end
theorem c_R_bounded {l : Launch} {D : va_G} {cA : Nat → ClassId} {a : Nat → Nat} {X : (Nat → Prop) → State → Prop} (hX : XT X) {σ : SS} {post : Int32 → SS → Prop} {x1 : Int32} (h : f_R_bounded post σ x1) : mI l y_R_bounded b_R_bounded 3 (some .int) 5 121 D vcl (tyl cA) (wR cA a) X σ [.ref (a 0), .int x1] post := met_I (by decide) (Nat.le_of_ble_eq_true rfl) (fun p e s m args below meth c A Q fx HR H ls hw hl => e_R_bounded hX fx HR h hw hl)
abbrev r_R_address : Room := { frames := 6, cells := 0, slots := 0, locals := 143 }
def f_R_address_160 (post : Int32 → SS → Prop) (σ : SS) (x1 : Int32) (x3 : Int32) (x4 : Int32) : Prop := post ((x1 + (256 * (x3 &&& 3))) + (x4 &&& 255)) σ
def f_R_address_157 (post : Int32 → SS → Prop) (σ : SS) (x1 : Int32) (x3 : Int32) (x4 : Int32) (s0 : Int32) : Prop := bz s0 ∧ nm (sI σ 25 s0) fun σ_1 => f_R_address_160 post σ_1 x1 x3 x4
def f_R_address_113 (post : Int32 → SS → Prop) (σ : SS) (x1 : Int32) (x3 : Int32) (x4 : Int32) (s0 : Int32) : Prop := bz s0 ∧ nm (sI σ 25 s0) fun σ_2 => f_R_address_160 post σ_2 x1 x3 x4
def f_R_address_88 (post : Int32 → SS → Prop) (σ : SS) (x1 : Int32) (x3 : Int32) (s0 : Int32) : Prop := br (x3 = 1) (f_R_within (fun r_4 σ_3 => br (r_4 = 0) (f_R_address_113 post σ_3 x1 x3 s0 1) (f_R_address_113 post σ_3 x1 x3 s0 0)) σ s0 (-128) 127) (f_R_address_113 post σ x1 x3 s0 0)
def f_R_address_73 (post : Int32 → SS → Prop) (σ : SS) (x1 : Int32) (x2 : Int32) (s0 : Int32) : Prop := br (s0 = 0) (f_R_address_88 post σ x1 s0 x2) (f_R_address_88 post σ x1 s0 (x2 - (σ.1 19)))
def f_R_address_54 (post : Int32 → SS → Prop) (σ : SS) (x1 : Int32) (x2 : Int32) (x3 : Int32) : Prop := br (0 ≤ x3) (br (x3 = 0) (br (x2 ≤ 255) (f_R_address_157 post σ x1 x3 x2 0) (f_R_address_157 post σ x1 x3 x2 1)) (br (x2 ≤ 127) (f_R_address_157 post σ x1 x3 x2 0) (br (65408 ≤ x2) (f_R_address_157 post σ x1 x3 x2 0) (f_R_address_157 post σ x1 x3 x2 1)))) (br (256 ≤ x2) (f_R_address_73 post σ x1 x2 1) (f_R_address_73 post σ x1 x2 0))
def f_R_address_20 (post : Int32 → SS → Prop) (σ : SS) (x1 : Int32) : Prop := f_R_expression (fun r_6 σ_5 => br ((σ_5.1 13) = 0) (f_R_isSign (fun r_8 σ_7 => br (r_8 = 0) (f_R_address_54 post σ_7 x1 r_6 (-1)) (f_R_next (fun r_10 σ_9 => f_R_bounded (fun r_12 σ_11 => f_R_address_54 post σ_11 x1 r_6 r_12) σ_9 3) σ_7)) σ_5 44) (f_R_address_54 post σ_5 x1 r_6 (-1))) σ
def f_R_address (post : Int32 → SS → Prop) (σ : SS) : Prop := f_R_isSign (fun r_14 σ_13 => br (r_14 = 0) (f_R_address_20 post σ_13 0) (f_R_next (fun r_16 σ_15 => f_R_address_20 post σ_15 1024) σ_13)) σ 64
section
variable {p : Program} {l : Launch} {e : Env} {s : State} {m : MethodId} {args : Array Value} {below : List Frame} {meth : Method} {c : Code} {Q : State → Prop} {D : va_G} {cA : Nat → ClassId} {a : Nat → Nat} {X : (Nat → Prop) → State → Prop} {A : Nat → Prop}
set_option maxHeartbeats 4000000 in
set_option maxRecDepth 100000 in
theorem c_R_address_160 (hX : XT X) (fx : CallFix p m c b_R_address 5 s args GW RNR) {post : Int32 → SS → Prop} (HR : RetI p l e r_R_address s m args below meth c Q D vcl (tyl cA) (wR cA a) X A b_R_address .int post) {σ : SS} {x1 : Int32} {x3 : Int32} {x4 : Int32} {H : Heap} {locs : List Loc} {ls : Array Slot} (h : f_R_address_160 post σ x1 x3 x4) (hw : CX D vcl (tyl cA) (wR cA a σ) X A s H locs) (hl : lv_has ls 5 [(1, .int x1), (3, .int x3), (4, .int x4)]) : W p l e r_R_address s m args below meth c H locs 0 0 Q (F0 m 160 ls []) := by
  have hx := fx.1
  have hb := fx.2.1
  unfold f_R_address_160 at h
  refine lv_iload_n (pc := 160) hx hb d_R_address_160 rfl (lv_at hl 0 rfl) ?_
  refine lv_sipush (pc := 161) (v := 256) hx hb d_R_address_161 (by decide) ?_
  refine lv_iload_n (pc := 164) hx hb d_R_address_164 rfl (lv_at hl 1 rfl) ?_
  refine lv_iconst (pc := 165) (v := 3) hx hb d_R_address_165 (by decide) ?_
  refine lv_iand (pc := 166) hx hb d_R_address_166 ?_
  refine lv_imul (pc := 167) hx hb d_R_address_167 ?_
  refine lv_iadd (pc := 168) hx hb d_R_address_168 ?_
  refine lv_iload (pc := 169) hx hb d_R_address_169 (lv_at hl 2 rfl) ?_
  refine lv_sipush (pc := 171) (v := 255) hx hb d_R_address_171 (by decide) ?_
  refine lv_iand (pc := 174) hx hb d_R_address_174 ?_
  refine lv_iadd (pc := 175) hx hb d_R_address_175 ?_
  exact HR rfl d_R_address_176 h hw
set_option maxHeartbeats 4000000 in
set_option maxRecDepth 100000 in
theorem c_R_address_157 (hX : XT X) (fx : CallFix p m c b_R_address 5 s args GW RNR) {post : Int32 → SS → Prop} (HR : RetI p l e r_R_address s m args below meth c Q D vcl (tyl cA) (wR cA a) X A b_R_address .int post) {σ : SS} {x1 : Int32} {x3 : Int32} {x4 : Int32} {s0 : Int32} {H : Heap} {locs : List Loc} {ls : Array Slot} (h : f_R_address_157 post σ x1 x3 x4 s0) (hw : CX D vcl (tyl cA) (wR cA a σ) X A s H locs) (hl : lv_has ls 5 [(1, .int x1), (3, .int x3), (4, .int x4)]) : W p l e r_R_address s m args below meth c H locs 0 0 Q (F0 m 157 ls [.int s0, .ref (a 0)]) := by
  have hx := fx.1
  have hb := fx.2.1
  unfold f_R_address_157 at h
  have z9 := h.1
  replace h := h.2
  refine pR_0_outside (pc := 157) fx hw kw_1110 z9 d_R_address_157 (fun σ_1 e9 H locs hw => ?_)
  replace h := nm_u h e9
  clear e9
  exact c_R_address_160 hX fx HR h hw (lv_sub hl [0, 1, 2] rfl)
set_option maxHeartbeats 4000000 in
set_option maxRecDepth 100000 in
theorem c_R_address_113 (hX : XT X) (fx : CallFix p m c b_R_address 5 s args GW RNR) {post : Int32 → SS → Prop} (HR : RetI p l e r_R_address s m args below meth c Q D vcl (tyl cA) (wR cA a) X A b_R_address .int post) {σ : SS} {x1 : Int32} {x3 : Int32} {x4 : Int32} {s0 : Int32} {H : Heap} {locs : List Loc} {ls : Array Slot} (h : f_R_address_113 post σ x1 x3 x4 s0) (hw : CX D vcl (tyl cA) (wR cA a σ) X A s H locs) (hl : lv_has ls 5 [(1, .int x1), (3, .int x3), (4, .int x4)]) : W p l e r_R_address s m args below meth c H locs 0 0 Q (F0 m 113 ls [.int s0, .ref (a 0)]) := by
  have hx := fx.1
  have hb := fx.2.1
  unfold f_R_address_113 at h
  have z9 := h.1
  replace h := h.2
  refine pR_0_outside (pc := 113) fx hw kw_1110 z9 d_R_address_113 (fun σ_2 e9 H locs hw => ?_)
  replace h := nm_u h e9
  clear e9
  refine lv_goto (pc := 116) (tgt := 160) hx hb d_R_address_116 (by decide) ?_
  exact c_R_address_160 hX fx HR h hw (lv_sub hl [0, 1, 2] rfl)
set_option maxHeartbeats 4000000 in
set_option maxRecDepth 100000 in
theorem c_R_address_88 (hX : XT X) (fx : CallFix p m c b_R_address 5 s args GW RNR) {post : Int32 → SS → Prop} (HR : RetI p l e r_R_address s m args below meth c Q D vcl (tyl cA) (wR cA a) X A b_R_address .int post) {σ : SS} {x1 : Int32} {x3 : Int32} {s0 : Int32} {H : Heap} {locs : List Loc} {ls : Array Slot} (h : f_R_address_88 post σ x1 x3 s0) (hw : CX D vcl (tyl cA) (wR cA a σ) X A s H locs) (hl : lv_has ls 5 [(0, .ref (a 0)), (1, .int x1), (3, .int x3)]) : W p l e r_R_address s m args below meth c H locs 0 0 Q (F0 m 88 ls [.int s0]) := by
  have hx := fx.1
  have hb := fx.2.1
  unfold f_R_address_88 at h
  refine lv_istore (pc := 88) (lv' := [(4, .int s0), (0, .ref (a 0)), (1, .int x1), (3, .int x3)]) hx hb d_R_address_88 hl (by decide) rfl (fun ls hl => ?_)
  refine lv_aload_n (pc := 90) hx hb d_R_address_90 rfl (lv_at hl 1 rfl) ?_
  refine lv_iload_n (pc := 91) hx hb d_R_address_91 rfl (lv_at hl 3 rfl) ?_
  refine lv_iconst (pc := 92) (v := 1) hx hb d_R_address_92 (by decide) ?_
  refine lv_icmp_ne (pc := 93) (tgt := 112) hx hb d_R_address_93 (by decide) (fun c9 => ?_) (fun c9 => ?_)
  · replace h := h.2 c9
    refine lv_iconst (pc := 112) (v := 0) hx hb d_R_address_112 (by decide) ?_
    exact c_R_address_113 hX fx HR h hw (lv_sub hl [2, 3, 0] rfl)
  · replace h := h.1 c9
    refine lv_iload (pc := 96) hx hb d_R_address_96 (lv_at hl 0 rfl) ?_
    refine lv_bipush (pc := 98) (v := (-128)) hx hb d_R_address_98 (by decide) ?_
    refine lv_bipush (pc := 100) (v := 127) hx hb d_R_address_100 (by decide) ?_
    refine cxSI (pc := 102) hX fx hw (c_R_within hX h) cw_R_72 rfl ⟨Nat.le_of_ble_eq_true rfl, Nat.le_of_ble_eq_true rfl⟩ hl.1 (Nat.le_of_ble_eq_true rfl) d_R_address_102 ⟨Nat.zero_le _, Nat.zero_le _⟩ (fun r_4 σ_3 H locs hw h => ?_)
    have zr_4 := h.1
    replace h := h.2
    refine lv_if_ne (pc := 105) (tgt := 112) hx hb d_R_address_105 (by decide) (fun c9 => ?_) (fun c9 => ?_)
    · replace h := h.2 c9
      refine lv_iconst (pc := 112) (v := 0) hx hb d_R_address_112 (by decide) ?_
      exact c_R_address_113 hX fx HR h hw (lv_sub hl [2, 3, 0] rfl)
    · replace h := h.1 c9
      refine lv_iconst (pc := 108) (v := 1) hx hb d_R_address_108 (by decide) ?_
      refine lv_goto (pc := 109) (tgt := 113) hx hb d_R_address_109 (by decide) ?_
      exact c_R_address_113 hX fx HR h hw (lv_sub hl [2, 3, 0] rfl)
set_option maxHeartbeats 4000000 in
set_option maxRecDepth 100000 in
theorem c_R_address_73 (hX : XT X) (fx : CallFix p m c b_R_address 5 s args GW RNR) {post : Int32 → SS → Prop} (HR : RetI p l e r_R_address s m args below meth c Q D vcl (tyl cA) (wR cA a) X A b_R_address .int post) {σ : SS} {x1 : Int32} {x2 : Int32} {s0 : Int32} {H : Heap} {locs : List Loc} {ls : Array Slot} (h : f_R_address_73 post σ x1 x2 s0) (hw : CX D vcl (tyl cA) (wR cA a σ) X A s H locs) (hl : lv_has ls 5 [(0, .ref (a 0)), (1, .int x1), (2, .int x2)]) : W p l e r_R_address s m args below meth c H locs 0 0 Q (F0 m 73 ls [.int s0]) := by
  have hx := fx.1
  have hb := fx.2.1
  unfold f_R_address_73 at h
  refine lv_istore_n (pc := 73) (lv' := [(3, .int s0), (0, .ref (a 0)), (1, .int x1), (2, .int x2)]) hx hb d_R_address_73 rfl hl (by decide) rfl (fun ls hl => ?_)
  refine lv_iload_n (pc := 74) hx hb d_R_address_74 rfl (lv_at hl 0 rfl) ?_
  refine lv_if_ne (pc := 75) (tgt := 82) hx hb d_R_address_75 (by decide) (fun c9 => ?_) (fun c9 => ?_)
  · replace h := h.2 c9
    refine lv_iload_n (pc := 82) hx hb d_R_address_82 rfl (lv_at hl 3 rfl) ?_
    refine lv_aload_n (pc := 83) hx hb d_R_address_83 rfl (lv_at hl 1 rfl) ?_
    refine gR_0_here (pc := 84) fx hw kw_1101 d_R_address_84 ?_
    refine lv_isub (pc := 87) hx hb d_R_address_87 ?_
    exact c_R_address_88 hX fx HR h hw (lv_sub hl [1, 2, 0] rfl)
  · replace h := h.1 c9
    refine lv_iload_n (pc := 78) hx hb d_R_address_78 rfl (lv_at hl 3 rfl) ?_
    refine lv_goto (pc := 79) (tgt := 88) hx hb d_R_address_79 (by decide) ?_
    exact c_R_address_88 hX fx HR h hw (lv_sub hl [1, 2, 0] rfl)
set_option maxHeartbeats 4000000 in
set_option maxRecDepth 100000 in
theorem c_R_address_54 (hX : XT X) (fx : CallFix p m c b_R_address 5 s args GW RNR) {post : Int32 → SS → Prop} (HR : RetI p l e r_R_address s m args below meth c Q D vcl (tyl cA) (wR cA a) X A b_R_address .int post) {σ : SS} {x1 : Int32} {x2 : Int32} {x3 : Int32} {H : Heap} {locs : List Loc} {ls : Array Slot} (h : f_R_address_54 post σ x1 x2 x3) (hw : CX D vcl (tyl cA) (wR cA a σ) X A s H locs) (hl : lv_has ls 5 [(0, .ref (a 0)), (1, .int x1), (2, .int x2), (3, .int x3)]) : W p l e r_R_address s m args below meth c H locs 0 0 Q (F0 m 54 ls []) := by
  have hx := fx.1
  have hb := fx.2.1
  unfold f_R_address_54 at h
  refine lv_iload_n (pc := 54) hx hb d_R_address_54 rfl (lv_at hl 2 rfl) ?_
  refine lv_istore (pc := 55) (lv' := [(4, .int x2), (0, .ref (a 0)), (1, .int x1), (2, .int x2), (3, .int x3)]) hx hb d_R_address_55 hl (by decide) rfl (fun ls hl => ?_)
  refine lv_iload_n (pc := 57) hx hb d_R_address_57 rfl (lv_at hl 4 rfl) ?_
  refine lv_if_ge (pc := 58) (tgt := 119) hx hb d_R_address_58 (by decide) (fun c9 => ?_) (fun c9 => ?_)
  · replace h := h.1 c9
    refine lv_aload_n (pc := 119) hx hb d_R_address_119 rfl (lv_at hl 1 rfl) ?_
    refine lv_iload_n (pc := 120) hx hb d_R_address_120 rfl (lv_at hl 4 rfl) ?_
    refine lv_if_ne (pc := 121) (tgt := 139) hx hb d_R_address_121 (by decide) (fun c9 => ?_) (fun c9 => ?_)
    · replace h := h.2 c9
      refine lv_iload_n (pc := 139) hx hb d_R_address_139 rfl (lv_at hl 3 rfl) ?_
      refine lv_bipush (pc := 140) (v := 127) hx hb d_R_address_140 (by decide) ?_
      refine lv_icmp_le (pc := 142) (tgt := 156) hx hb d_R_address_142 (by decide) (fun c9 => ?_) (fun c9 => ?_)
      · replace h := h.1 c9
        refine lv_iconst (pc := 156) (v := 0) hx hb d_R_address_156 (by decide) ?_
        exact c_R_address_157 hX fx HR h hw (lv_sub hl [2, 4, 0] rfl)
      · replace h := h.2 c9
        refine lv_iload_n (pc := 145) hx hb d_R_address_145 rfl (lv_at hl 3 rfl) ?_
        refine lv_ldcw (pc := 146) (v := 65408) hx hb fx.2.2.2.1 (fx.2.2.2.2 _ kw_1482) d_R_address_146 ?_
        refine lv_icmp_ge (pc := 149) (tgt := 156) hx hb d_R_address_149 (by decide) (fun c9 => ?_) (fun c9 => ?_)
        · replace h := h.1 c9
          refine lv_iconst (pc := 156) (v := 0) hx hb d_R_address_156 (by decide) ?_
          exact c_R_address_157 hX fx HR h hw (lv_sub hl [2, 4, 0] rfl)
        · replace h := h.2 c9
          refine lv_iconst (pc := 152) (v := 1) hx hb d_R_address_152 (by decide) ?_
          refine lv_goto (pc := 153) (tgt := 157) hx hb d_R_address_153 (by decide) ?_
          exact c_R_address_157 hX fx HR h hw (lv_sub hl [2, 4, 0] rfl)
    · replace h := h.1 c9
      refine lv_iload_n (pc := 124) hx hb d_R_address_124 rfl (lv_at hl 3 rfl) ?_
      refine lv_sipush (pc := 125) (v := 255) hx hb d_R_address_125 (by decide) ?_
      refine lv_icmp_le (pc := 128) (tgt := 135) hx hb d_R_address_128 (by decide) (fun c9 => ?_) (fun c9 => ?_)
      · replace h := h.1 c9
        refine lv_iconst (pc := 135) (v := 0) hx hb d_R_address_135 (by decide) ?_
        refine lv_goto (pc := 136) (tgt := 157) hx hb d_R_address_136 (by decide) ?_
        exact c_R_address_157 hX fx HR h hw (lv_sub hl [2, 4, 0] rfl)
      · replace h := h.2 c9
        refine lv_iconst (pc := 131) (v := 1) hx hb d_R_address_131 (by decide) ?_
        refine lv_goto (pc := 132) (tgt := 157) hx hb d_R_address_132 (by decide) ?_
        exact c_R_address_157 hX fx HR h hw (lv_sub hl [2, 4, 0] rfl)
  · replace h := h.2 c9
    refine lv_iload_n (pc := 61) hx hb d_R_address_61 rfl (lv_at hl 3 rfl) ?_
    refine lv_sipush (pc := 62) (v := 256) hx hb d_R_address_62 (by decide) ?_
    refine lv_icmp_ge (pc := 65) (tgt := 72) hx hb d_R_address_65 (by decide) (fun c9 => ?_) (fun c9 => ?_)
    · replace h := h.1 c9
      refine lv_iconst (pc := 72) (v := 1) hx hb d_R_address_72 (by decide) ?_
      exact c_R_address_73 hX fx HR h hw (lv_sub hl [1, 2, 3] rfl)
    · replace h := h.2 c9
      refine lv_iconst (pc := 68) (v := 0) hx hb d_R_address_68 (by decide) ?_
      refine lv_goto (pc := 69) (tgt := 73) hx hb d_R_address_69 (by decide) ?_
      exact c_R_address_73 hX fx HR h hw (lv_sub hl [1, 2, 3] rfl)
set_option maxHeartbeats 4000000 in
set_option maxRecDepth 100000 in
theorem c_R_address_20 (hX : XT X) (fx : CallFix p m c b_R_address 5 s args GW RNR) {post : Int32 → SS → Prop} (HR : RetI p l e r_R_address s m args below meth c Q D vcl (tyl cA) (wR cA a) X A b_R_address .int post) {σ : SS} {x1 : Int32} {H : Heap} {locs : List Loc} {ls : Array Slot} (h : f_R_address_20 post σ x1) (hw : CX D vcl (tyl cA) (wR cA a σ) X A s H locs) (hl : lv_has ls 5 [(0, .ref (a 0)), (1, .int x1)]) : W p l e r_R_address s m args below meth c H locs 0 0 Q (F0 m 20 ls []) := by
  have hx := fx.1
  have hb := fx.2.1
  unfold f_R_address_20 at h
  refine lv_aload_n (pc := 20) hx hb d_R_address_20 rfl (lv_at hl 0 rfl) ?_
  refine cxI (pc := 21) hX fx hw (c_R_expression hX h) cw_R_358 (rcR_0 hw) rfl ⟨Nat.le_of_ble_eq_true rfl, Nat.le_of_ble_eq_true rfl⟩ hl.1 (Nat.le_of_ble_eq_true rfl) d_R_address_21 ⟨Nat.zero_le _, Nat.zero_le _⟩ (fun r_6 σ_5 H locs hw h => ?_)
  refine lv_istore_n (pc := 24) (lv' := [(2, .int r_6), (0, .ref (a 0)), (1, .int x1)]) hx hb d_R_address_24 rfl hl (by decide) rfl (fun ls hl => ?_)
  refine lv_iconst (pc := 25) (v := (-1)) hx hb d_R_address_25 (by decide) ?_
  refine lv_istore_n (pc := 26) (lv' := [(3, .int (-1)), (2, .int r_6), (0, .ref (a 0)), (1, .int x1)]) hx hb d_R_address_26 rfl hl (by decide) rfl (fun ls hl => ?_)
  refine lv_aload_n (pc := 27) hx hb d_R_address_27 rfl (lv_at hl 2 rfl) ?_
  refine gR_0_fault (pc := 28) fx hw kw_1089 d_R_address_28 ?_
  refine lv_if_ne (pc := 31) (tgt := 54) hx hb d_R_address_31 (by decide) (fun c9 => ?_) (fun c9 => ?_)
  · replace h := h.2 c9
    exact c_R_address_54 hX fx HR h hw (lv_sub hl [2, 3, 1, 0] rfl)
  · replace h := h.1 c9
    refine lv_aload_n (pc := 34) hx hb d_R_address_34 rfl (lv_at hl 2 rfl) ?_
    refine lv_bipush (pc := 35) (v := 44) hx hb d_R_address_35 (by decide) ?_
    refine cxI (pc := 37) hX fx hw (c_R_isSign hX h) cw_R_352 (rcR_0 hw) rfl ⟨Nat.le_of_ble_eq_true rfl, Nat.le_of_ble_eq_true rfl⟩ hl.1 (Nat.le_of_ble_eq_true rfl) d_R_address_37 ⟨Nat.zero_le _, Nat.zero_le _⟩ (fun r_8 σ_7 H locs hw h => ?_)
    have zr_8 := h.1
    replace h := h.2
    refine lv_if_eq (pc := 40) (tgt := 54) hx hb d_R_address_40 (by decide) (fun c9 => ?_) (fun c9 => ?_)
    · replace h := h.1 c9
      exact c_R_address_54 hX fx HR h hw (lv_sub hl [2, 3, 1, 0] rfl)
    · replace h := h.2 c9
      refine lv_aload_n (pc := 43) hx hb d_R_address_43 rfl (lv_at hl 2 rfl) ?_
      refine cxI (pc := 44) hX fx hw (c_R_next hX h) cw_R_349 (rcR_0 hw) rfl ⟨Nat.le_of_ble_eq_true rfl, Nat.le_of_ble_eq_true rfl⟩ hl.1 (Nat.le_of_ble_eq_true rfl) d_R_address_44 ⟨Nat.zero_le _, Nat.zero_le _⟩ (fun r_10 σ_9 H locs hw h => ?_)
      have zr_10 := h.1
      replace h := h.2
      refine lv_pop (pc := 47) hx hb d_R_address_47 rfl ?_
      refine lv_aload_n (pc := 48) hx hb d_R_address_48 rfl (lv_at hl 2 rfl) ?_
      refine lv_iconst (pc := 49) (v := 3) hx hb d_R_address_49 (by decide) ?_
      refine cxI (pc := 50) hX fx hw (c_R_bounded hX h) cw_R_364 (rcR_0 hw) rfl ⟨Nat.le_of_ble_eq_true rfl, Nat.le_of_ble_eq_true rfl⟩ hl.1 (Nat.le_of_ble_eq_true rfl) d_R_address_50 ⟨Nat.zero_le _, Nat.zero_le _⟩ (fun r_12 σ_11 H locs hw h => ?_)
      refine lv_istore_n (pc := 53) (lv' := [(3, .int r_12), (2, .int r_6), (0, .ref (a 0)), (1, .int x1)]) hx hb d_R_address_53 rfl hl (by decide) rfl (fun ls hl => ?_)
      exact c_R_address_54 hX fx HR h hw (lv_sub hl [2, 3, 1, 0] rfl)
set_option maxHeartbeats 4000000 in
set_option maxRecDepth 100000 in
theorem e_R_address (hX : XT X) (fx : CallFix p m c b_R_address 5 s args GW RNR) {post : Int32 → SS → Prop} (HR : RetI p l e r_R_address s m args below meth c Q D vcl (tyl cA) (wR cA a) X A b_R_address .int post) {σ : SS} {H : Heap} {locs : List Loc} {ls : Array Slot} (h : f_R_address post σ) (hw : CX D vcl (tyl cA) (wR cA a σ) X A s H locs) (hl : lv_has ls 5 [(0, .ref (a 0))]) : W p l e r_R_address s m args below meth c H locs 0 0 Q (F0 m 0 ls []) := by
  have hx := fx.1
  have hb := fx.2.1
  unfold f_R_address at h
  refine lv_iconst (pc := 0) (v := 0) hx hb d_R_address_0 (by decide) ?_
  refine lv_istore_n (pc := 1) (lv' := [(1, .int 0), (0, .ref (a 0))]) hx hb d_R_address_1 rfl hl (by decide) rfl (fun ls hl => ?_)
  refine lv_aload_n (pc := 2) hx hb d_R_address_2 rfl (lv_at hl 1 rfl) ?_
  refine lv_bipush (pc := 3) (v := 64) hx hb d_R_address_3 (by decide) ?_
  refine cxI (pc := 5) hX fx hw (c_R_isSign hX h) cw_R_352 (rcR_0 hw) rfl ⟨Nat.le_of_ble_eq_true rfl, Nat.le_of_ble_eq_true rfl⟩ hl.1 (Nat.le_of_ble_eq_true rfl) d_R_address_5 ⟨Nat.zero_le _, Nat.zero_le _⟩ (fun r_14 σ_13 H locs hw h => ?_)
  have zr_14 := h.1
  replace h := h.2
  refine lv_if_eq (pc := 8) (tgt := 20) hx hb d_R_address_8 (by decide) (fun c9 => ?_) (fun c9 => ?_)
  · replace h := h.1 c9
    exact c_R_address_20 hX fx HR h hw (lv_sub hl [1, 0] rfl)
  · replace h := h.2 c9
    refine lv_sipush (pc := 11) (v := 1024) hx hb d_R_address_11 (by decide) ?_
    refine lv_istore_n (pc := 14) (lv' := [(1, .int 1024), (0, .ref (a 0))]) hx hb d_R_address_14 rfl hl (by decide) rfl (fun ls hl => ?_)
    refine lv_aload_n (pc := 15) hx hb d_R_address_15 rfl (lv_at hl 1 rfl) ?_
    refine cxI (pc := 16) hX fx hw (c_R_next hX h) cw_R_349 (rcR_0 hw) rfl ⟨Nat.le_of_ble_eq_true rfl, Nat.le_of_ble_eq_true rfl⟩ hl.1 (Nat.le_of_ble_eq_true rfl) d_R_address_16 ⟨Nat.zero_le _, Nat.zero_le _⟩ (fun r_16 σ_15 H locs hw h => ?_)
    have zr_16 := h.1
    replace h := h.2
    refine lv_pop (pc := 19) hx hb d_R_address_19 rfl ?_
    exact c_R_address_20 hX fx HR h hw (lv_sub hl [1, 0] rfl)
end
theorem c_R_address {l : Launch} {D : va_G} {cA : Nat → ClassId} {a : Nat → Nat} {X : (Nat → Prop) → State → Prop} (hX : XT X) {σ : SS} {post : Int32 → SS → Prop} (h : f_R_address post σ) : mI l y_R_address b_R_address 5 (some .int) 6 143 D vcl (tyl cA) (wR cA a) X σ [.ref (a 0)] post := met_I (by decide) (Nat.le_of_ble_eq_true rfl) (fun p e s m args below meth c A Q fx HR H ls hw hl => e_R_address hX fx HR h hw hl)
abbrev r_R_statement : Room := { frames := 7, cells := 0, slots := 0, locals := 167 }
def f_R_statement_99 (post : Int32 → SS → Prop) (σ : SS) (x1 : Int32) : Prop := f_R_bounded (fun r_2 σ_1 => nm (x1 + (8192 * r_2)) fun x1_3 => f_R_comma (fun σ_4 => f_R_bounded (fun r_7 σ_6 => nm (x1_3 + (2048 * r_7)) fun x1_8 => br ((σ_6.1 13) = 0) (f_R_isSign (fun r_10 σ_9 => br (r_10 = 0) (post x1_8 σ_9) (f_R_next (fun r_12 σ_11 => f_R_bounded (fun r_14 σ_13 => nm (x1_8 + r_14) fun x1_15 => post x1_15 σ_13) σ_11 7) σ_9)) σ_6 44) (post x1_8 σ_6)) σ_4 3) σ_1) σ 3
def f_R_statement (post : Int32 → SS → Prop) (σ : SS) : Prop := nm (σ.1 27) fun x1_16 => nm (σ.1 26) fun xs_17 => br (xs_17 = (3 : Int32)) (f_R_address (fun r_20 σ_19 => post (x1_16 + r_20) σ_19) σ) (br (xs_17 = (4 : Int32)) (f_R_bounded (fun r_23 σ_22 => nm (x1_16 + (2048 * r_23)) fun x1_24 => f_R_comma (fun σ_25 => f_R_address (fun r_28 σ_27 => post (x1_24 + r_28) σ_27) σ_25) σ_22) σ 3) (br (xs_17 = (5 : Int32)) (f_R_isSign (fun r_31 σ_30 => br (r_31 = 0) (f_R_statement_99 post σ_30 x1_16) (nm (x1_16 + 8) fun x1_32 => f_R_next (fun r_34 σ_33 => f_R_statement_99 post σ_33 x1_32) σ_30)) σ 35) (br (xs_17 = (6 : Int32)) (f_R_bounded (fun r_37 σ_36 => post (x1_16 + r_37) σ_36) σ 63) (br (xs_17 = (7 : Int32)) (f_R_bounded (fun r_40 σ_39 => nm (x1_16 + (2048 * r_40)) fun x1_41 => f_R_comma (fun σ_42 => f_R_bounded (fun r_45 σ_44 => post (x1_41 + r_45) σ_44) σ_42 63) σ_39) σ 3) (br (xs_17 = (8 : Int32)) (post x1_16 σ) (br (xs_17 = (9 : Int32)) (f_R_bounded (fun r_49 σ_48 => post (x1_16 + (2048 * r_49)) σ_48) σ 3) (post x1_16 σ)))))))
section
variable {p : Program} {l : Launch} {e : Env} {s : State} {m : MethodId} {args : Array Value} {below : List Frame} {meth : Method} {c : Code} {Q : State → Prop} {D : va_G} {cA : Nat → ClassId} {a : Nat → Nat} {X : (Nat → Prop) → State → Prop} {A : Nat → Prop}
set_option maxHeartbeats 4000000 in
set_option maxRecDepth 100000 in
theorem c_R_statement_99 (hX : XT X) (fx : CallFix p m c b_R_statement 2 s args GW RNR) {post : Int32 → SS → Prop} (HR : RetI p l e r_R_statement s m args below meth c Q D vcl (tyl cA) (wR cA a) X A b_R_statement .int post) {σ : SS} {x1 : Int32} {H : Heap} {locs : List Loc} {ls : Array Slot} (h : f_R_statement_99 post σ x1) (hw : CX D vcl (tyl cA) (wR cA a σ) X A s H locs) (hl : lv_has ls 2 [(0, .ref (a 0)), (1, .int x1)]) : W p l e r_R_statement s m args below meth c H locs 0 0 Q (F0 m 99 ls []) := by
  have hx := fx.1
  have hb := fx.2.1
  unfold f_R_statement_99 at h
  refine lv_iload_n (pc := 99) hx hb d_R_statement_99 rfl (lv_at hl 1 rfl) ?_
  refine lv_sipush (pc := 100) (v := 8192) hx hb d_R_statement_100 (by decide) ?_
  refine lv_aload_n (pc := 103) hx hb d_R_statement_103 rfl (lv_at hl 0 rfl) ?_
  refine lv_iconst (pc := 104) (v := 3) hx hb d_R_statement_104 (by decide) ?_
  refine cxI (pc := 105) hX fx hw (c_R_bounded hX h) cw_R_364 (rcR_0 hw) rfl ⟨Nat.le_of_ble_eq_true rfl, Nat.le_of_ble_eq_true rfl⟩ hl.1 (Nat.le_of_ble_eq_true rfl) d_R_statement_105 ⟨Nat.zero_le _, Nat.zero_le _⟩ (fun r_2 σ_1 H locs hw h => ?_)
  refine lv_imul (pc := 108) hx hb d_R_statement_108 ?_
  refine lv_iadd (pc := 109) hx hb d_R_statement_109 ?_
  refine lv_topi (fun x1_3 e9 => ?_)
  replace h := nm_u h e9
  clear e9
  refine lv_istore_n (pc := 110) (lv' := [(1, .int x1_3), (0, .ref (a 0))]) hx hb d_R_statement_110 rfl hl (by decide) rfl (fun ls hl => ?_)
  refine lv_aload_n (pc := 111) hx hb d_R_statement_111 rfl (lv_at hl 1 rfl) ?_
  refine cxU (pc := 112) hX fx hw (c_R_comma hX h) cw_R_374 (rcR_0 hw) rfl ⟨Nat.le_of_ble_eq_true rfl, Nat.le_of_ble_eq_true rfl⟩ hl.1 (Nat.le_of_ble_eq_true rfl) d_R_statement_112 ⟨Nat.zero_le _, Nat.zero_le _⟩ (fun σ_4 H locs hw h => ?_)
  refine lv_iload_n (pc := 115) hx hb d_R_statement_115 rfl (lv_at hl 0 rfl) ?_
  refine lv_sipush (pc := 116) (v := 2048) hx hb d_R_statement_116 (by decide) ?_
  refine lv_aload_n (pc := 119) hx hb d_R_statement_119 rfl (lv_at hl 1 rfl) ?_
  refine lv_iconst (pc := 120) (v := 3) hx hb d_R_statement_120 (by decide) ?_
  refine cxI (pc := 121) hX fx hw (c_R_bounded hX h) cw_R_364 (rcR_0 hw) rfl ⟨Nat.le_of_ble_eq_true rfl, Nat.le_of_ble_eq_true rfl⟩ hl.1 (Nat.le_of_ble_eq_true rfl) d_R_statement_121 ⟨Nat.zero_le _, Nat.zero_le _⟩ (fun r_7 σ_6 H locs hw h => ?_)
  refine lv_imul (pc := 124) hx hb d_R_statement_124 ?_
  refine lv_iadd (pc := 125) hx hb d_R_statement_125 ?_
  refine lv_topi (fun x1_8 e9 => ?_)
  replace h := nm_u h e9
  clear e9
  refine lv_istore_n (pc := 126) (lv' := [(1, .int x1_8), (0, .ref (a 0))]) hx hb d_R_statement_126 rfl hl (by decide) rfl (fun ls hl => ?_)
  refine lv_aload_n (pc := 127) hx hb d_R_statement_127 rfl (lv_at hl 1 rfl) ?_
  refine gR_0_fault (pc := 128) fx hw kw_1089 d_R_statement_128 ?_
  refine lv_if_ne (pc := 131) (tgt := 157) hx hb d_R_statement_131 (by decide) (fun c9 => ?_) (fun c9 => ?_)
  · replace h := h.2 c9
    refine lv_iload_n (pc := 157) hx hb d_R_statement_157 rfl (lv_at hl 0 rfl) ?_
    exact HR rfl d_R_statement_158 h hw
  · replace h := h.1 c9
    refine lv_aload_n (pc := 134) hx hb d_R_statement_134 rfl (lv_at hl 1 rfl) ?_
    refine lv_bipush (pc := 135) (v := 44) hx hb d_R_statement_135 (by decide) ?_
    refine cxI (pc := 137) hX fx hw (c_R_isSign hX h) cw_R_352 (rcR_0 hw) rfl ⟨Nat.le_of_ble_eq_true rfl, Nat.le_of_ble_eq_true rfl⟩ hl.1 (Nat.le_of_ble_eq_true rfl) d_R_statement_137 ⟨Nat.zero_le _, Nat.zero_le _⟩ (fun r_10 σ_9 H locs hw h => ?_)
    have zr_10 := h.1
    replace h := h.2
    refine lv_if_eq (pc := 140) (tgt := 157) hx hb d_R_statement_140 (by decide) (fun c9 => ?_) (fun c9 => ?_)
    · replace h := h.1 c9
      refine lv_iload_n (pc := 157) hx hb d_R_statement_157 rfl (lv_at hl 0 rfl) ?_
      exact HR rfl d_R_statement_158 h hw
    · replace h := h.2 c9
      refine lv_aload_n (pc := 143) hx hb d_R_statement_143 rfl (lv_at hl 1 rfl) ?_
      refine cxI (pc := 144) hX fx hw (c_R_next hX h) cw_R_349 (rcR_0 hw) rfl ⟨Nat.le_of_ble_eq_true rfl, Nat.le_of_ble_eq_true rfl⟩ hl.1 (Nat.le_of_ble_eq_true rfl) d_R_statement_144 ⟨Nat.zero_le _, Nat.zero_le _⟩ (fun r_12 σ_11 H locs hw h => ?_)
      have zr_12 := h.1
      replace h := h.2
      refine lv_pop (pc := 147) hx hb d_R_statement_147 rfl ?_
      refine lv_iload_n (pc := 148) hx hb d_R_statement_148 rfl (lv_at hl 0 rfl) ?_
      refine lv_aload_n (pc := 149) hx hb d_R_statement_149 rfl (lv_at hl 1 rfl) ?_
      refine lv_bipush (pc := 150) (v := 7) hx hb d_R_statement_150 (by decide) ?_
      refine cxI (pc := 152) hX fx hw (c_R_bounded hX h) cw_R_364 (rcR_0 hw) rfl ⟨Nat.le_of_ble_eq_true rfl, Nat.le_of_ble_eq_true rfl⟩ hl.1 (Nat.le_of_ble_eq_true rfl) d_R_statement_152 ⟨Nat.zero_le _, Nat.zero_le _⟩ (fun r_14 σ_13 H locs hw h => ?_)
      refine lv_iadd (pc := 155) hx hb d_R_statement_155 ?_
      refine lv_topi (fun x1_15 e9 => ?_)
      replace h := nm_u h e9
      clear e9
      refine lv_istore_n (pc := 156) (lv' := [(1, .int x1_15), (0, .ref (a 0))]) hx hb d_R_statement_156 rfl hl (by decide) rfl (fun ls hl => ?_)
      refine lv_iload_n (pc := 157) hx hb d_R_statement_157 rfl (lv_at hl 0 rfl) ?_
      exact HR rfl d_R_statement_158 h hw
set_option maxHeartbeats 4000000 in
set_option maxRecDepth 100000 in
theorem e_R_statement (hX : XT X) (fx : CallFix p m c b_R_statement 2 s args GW RNR) {post : Int32 → SS → Prop} (HR : RetI p l e r_R_statement s m args below meth c Q D vcl (tyl cA) (wR cA a) X A b_R_statement .int post) {σ : SS} {H : Heap} {locs : List Loc} {ls : Array Slot} (h : f_R_statement post σ) (hw : CX D vcl (tyl cA) (wR cA a σ) X A s H locs) (hl : lv_has ls 2 [(0, .ref (a 0))]) : W p l e r_R_statement s m args below meth c H locs 0 0 Q (F0 m 0 ls []) := by
  have hx := fx.1
  have hb := fx.2.1
  unfold f_R_statement at h
  refine lv_aload_n (pc := 0) hx hb d_R_statement_0 rfl (lv_at hl 0 rfl) ?_
  refine gR_0_base (pc := 1) fx hw kw_1112 d_R_statement_1 ?_
  refine lv_topi (fun x1_16 e9 => ?_)
  replace h := nm_u h e9
  clear e9
  refine lv_istore_n (pc := 4) (lv' := [(1, .int x1_16), (0, .ref (a 0))]) hx hb d_R_statement_4 rfl hl (by decide) rfl (fun ls hl => ?_)
  refine lv_aload_n (pc := 5) hx hb d_R_statement_5 rfl (lv_at hl 1 rfl) ?_
  refine gR_0_sort (pc := 6) fx hw kw_1111 d_R_statement_6 ?_
  refine lv_topi (fun xs_17 e9 => ?_)
  replace h := nm_u h e9
  clear e9
  by_cases cq_18 : xs_17 = (3 : Int32)
  · replace h := h.1 cq_18
    refine lv_tableIn (pc := 9) (off := 43) (tgt := 52) hx hb d_R_statement_9 (by rw [cq_18]; decide) (by rw [cq_18]; decide) (by rw [cq_18]; rfl) (by decide) ?_
    refine lv_iload_n (pc := 52) hx hb d_R_statement_52 rfl (lv_at hl 0 rfl) ?_
    refine lv_aload_n (pc := 53) hx hb d_R_statement_53 rfl (lv_at hl 1 rfl) ?_
    refine cxI (pc := 54) hX fx hw (c_R_address hX h) cw_R_371 (rcR_0 hw) rfl ⟨Nat.le_of_ble_eq_true rfl, Nat.le_of_ble_eq_true rfl⟩ hl.1 (Nat.le_of_ble_eq_true rfl) d_R_statement_54 ⟨Nat.zero_le _, Nat.zero_le _⟩ (fun r_20 σ_19 H locs hw h => ?_)
    refine lv_iadd (pc := 57) hx hb d_R_statement_57 ?_
    exact HR rfl d_R_statement_58 h hw
  replace h := h.2 cq_18
  by_cases cq_21 : xs_17 = (4 : Int32)
  · replace h := h.1 cq_21
    refine lv_tableIn (pc := 9) (off := 50) (tgt := 59) hx hb d_R_statement_9 (by rw [cq_21]; decide) (by rw [cq_21]; decide) (by rw [cq_21]; rfl) (by decide) ?_
    refine lv_iload_n (pc := 59) hx hb d_R_statement_59 rfl (lv_at hl 0 rfl) ?_
    refine lv_sipush (pc := 60) (v := 2048) hx hb d_R_statement_60 (by decide) ?_
    refine lv_aload_n (pc := 63) hx hb d_R_statement_63 rfl (lv_at hl 1 rfl) ?_
    refine lv_iconst (pc := 64) (v := 3) hx hb d_R_statement_64 (by decide) ?_
    refine cxI (pc := 65) hX fx hw (c_R_bounded hX h) cw_R_364 (rcR_0 hw) rfl ⟨Nat.le_of_ble_eq_true rfl, Nat.le_of_ble_eq_true rfl⟩ hl.1 (Nat.le_of_ble_eq_true rfl) d_R_statement_65 ⟨Nat.zero_le _, Nat.zero_le _⟩ (fun r_23 σ_22 H locs hw h => ?_)
    refine lv_imul (pc := 68) hx hb d_R_statement_68 ?_
    refine lv_iadd (pc := 69) hx hb d_R_statement_69 ?_
    refine lv_topi (fun x1_24 e9 => ?_)
    replace h := nm_u h e9
    clear e9
    refine lv_istore_n (pc := 70) (lv' := [(1, .int x1_24), (0, .ref (a 0))]) hx hb d_R_statement_70 rfl hl (by decide) rfl (fun ls hl => ?_)
    refine lv_aload_n (pc := 71) hx hb d_R_statement_71 rfl (lv_at hl 1 rfl) ?_
    refine cxU (pc := 72) hX fx hw (c_R_comma hX h) cw_R_374 (rcR_0 hw) rfl ⟨Nat.le_of_ble_eq_true rfl, Nat.le_of_ble_eq_true rfl⟩ hl.1 (Nat.le_of_ble_eq_true rfl) d_R_statement_72 ⟨Nat.zero_le _, Nat.zero_le _⟩ (fun σ_25 H locs hw h => ?_)
    refine lv_iload_n (pc := 75) hx hb d_R_statement_75 rfl (lv_at hl 0 rfl) ?_
    refine lv_aload_n (pc := 76) hx hb d_R_statement_76 rfl (lv_at hl 1 rfl) ?_
    refine cxI (pc := 77) hX fx hw (c_R_address hX h) cw_R_371 (rcR_0 hw) rfl ⟨Nat.le_of_ble_eq_true rfl, Nat.le_of_ble_eq_true rfl⟩ hl.1 (Nat.le_of_ble_eq_true rfl) d_R_statement_77 ⟨Nat.zero_le _, Nat.zero_le _⟩ (fun r_28 σ_27 H locs hw h => ?_)
    refine lv_iadd (pc := 80) hx hb d_R_statement_80 ?_
    exact HR rfl d_R_statement_81 h hw
  replace h := h.2 cq_21
  by_cases cq_29 : xs_17 = (5 : Int32)
  · replace h := h.1 cq_29
    refine lv_tableIn (pc := 9) (off := 73) (tgt := 82) hx hb d_R_statement_9 (by rw [cq_29]; decide) (by rw [cq_29]; decide) (by rw [cq_29]; rfl) (by decide) ?_
    refine lv_aload_n (pc := 82) hx hb d_R_statement_82 rfl (lv_at hl 1 rfl) ?_
    refine lv_bipush (pc := 83) (v := 35) hx hb d_R_statement_83 (by decide) ?_
    refine cxI (pc := 85) hX fx hw (c_R_isSign hX h) cw_R_352 (rcR_0 hw) rfl ⟨Nat.le_of_ble_eq_true rfl, Nat.le_of_ble_eq_true rfl⟩ hl.1 (Nat.le_of_ble_eq_true rfl) d_R_statement_85 ⟨Nat.zero_le _, Nat.zero_le _⟩ (fun r_31 σ_30 H locs hw h => ?_)
    have zr_31 := h.1
    replace h := h.2
    refine lv_if_eq (pc := 88) (tgt := 99) hx hb d_R_statement_88 (by decide) (fun c9 => ?_) (fun c9 => ?_)
    · replace h := h.1 c9
      exact c_R_statement_99 hX fx HR h hw (lv_sub hl [1, 0] rfl)
    · replace h := h.2 c9
      obtain ⟨x1_32, e9⟩ : ∃ z : Int32, z = x1_16 + 8 := ⟨_, rfl⟩
      replace h := nm_u h e9
      refine lv_iinc (pc := 91) (v := x1_32) (lv' := [(1, .int x1_32), (0, .ref (a 0))]) hx hb d_R_statement_91 hl (k := 0) rfl (by rw [e9]; rfl) (by decide) rfl (fun ls hl => ?_)
      clear e9
      refine lv_aload_n (pc := 94) hx hb d_R_statement_94 rfl (lv_at hl 1 rfl) ?_
      refine cxI (pc := 95) hX fx hw (c_R_next hX h) cw_R_349 (rcR_0 hw) rfl ⟨Nat.le_of_ble_eq_true rfl, Nat.le_of_ble_eq_true rfl⟩ hl.1 (Nat.le_of_ble_eq_true rfl) d_R_statement_95 ⟨Nat.zero_le _, Nat.zero_le _⟩ (fun r_34 σ_33 H locs hw h => ?_)
      have zr_34 := h.1
      replace h := h.2
      refine lv_pop (pc := 98) hx hb d_R_statement_98 rfl ?_
      exact c_R_statement_99 hX fx HR h hw (lv_sub hl [1, 0] rfl)
  replace h := h.2 cq_29
  by_cases cq_35 : xs_17 = (6 : Int32)
  · replace h := h.1 cq_35
    refine lv_tableIn (pc := 9) (off := 150) (tgt := 159) hx hb d_R_statement_9 (by rw [cq_35]; decide) (by rw [cq_35]; decide) (by rw [cq_35]; rfl) (by decide) ?_
    refine lv_iload_n (pc := 159) hx hb d_R_statement_159 rfl (lv_at hl 0 rfl) ?_
    refine lv_aload_n (pc := 160) hx hb d_R_statement_160 rfl (lv_at hl 1 rfl) ?_
    refine lv_bipush (pc := 161) (v := 63) hx hb d_R_statement_161 (by decide) ?_
    refine cxI (pc := 163) hX fx hw (c_R_bounded hX h) cw_R_364 (rcR_0 hw) rfl ⟨Nat.le_of_ble_eq_true rfl, Nat.le_of_ble_eq_true rfl⟩ hl.1 (Nat.le_of_ble_eq_true rfl) d_R_statement_163 ⟨Nat.zero_le _, Nat.zero_le _⟩ (fun r_37 σ_36 H locs hw h => ?_)
    refine lv_iadd (pc := 166) hx hb d_R_statement_166 ?_
    exact HR rfl d_R_statement_167 h hw
  replace h := h.2 cq_35
  by_cases cq_38 : xs_17 = (7 : Int32)
  · replace h := h.1 cq_38
    refine lv_tableIn (pc := 9) (off := 159) (tgt := 168) hx hb d_R_statement_9 (by rw [cq_38]; decide) (by rw [cq_38]; decide) (by rw [cq_38]; rfl) (by decide) ?_
    refine lv_iload_n (pc := 168) hx hb d_R_statement_168 rfl (lv_at hl 0 rfl) ?_
    refine lv_sipush (pc := 169) (v := 2048) hx hb d_R_statement_169 (by decide) ?_
    refine lv_aload_n (pc := 172) hx hb d_R_statement_172 rfl (lv_at hl 1 rfl) ?_
    refine lv_iconst (pc := 173) (v := 3) hx hb d_R_statement_173 (by decide) ?_
    refine cxI (pc := 174) hX fx hw (c_R_bounded hX h) cw_R_364 (rcR_0 hw) rfl ⟨Nat.le_of_ble_eq_true rfl, Nat.le_of_ble_eq_true rfl⟩ hl.1 (Nat.le_of_ble_eq_true rfl) d_R_statement_174 ⟨Nat.zero_le _, Nat.zero_le _⟩ (fun r_40 σ_39 H locs hw h => ?_)
    refine lv_imul (pc := 177) hx hb d_R_statement_177 ?_
    refine lv_iadd (pc := 178) hx hb d_R_statement_178 ?_
    refine lv_topi (fun x1_41 e9 => ?_)
    replace h := nm_u h e9
    clear e9
    refine lv_istore_n (pc := 179) (lv' := [(1, .int x1_41), (0, .ref (a 0))]) hx hb d_R_statement_179 rfl hl (by decide) rfl (fun ls hl => ?_)
    refine lv_aload_n (pc := 180) hx hb d_R_statement_180 rfl (lv_at hl 1 rfl) ?_
    refine cxU (pc := 181) hX fx hw (c_R_comma hX h) cw_R_374 (rcR_0 hw) rfl ⟨Nat.le_of_ble_eq_true rfl, Nat.le_of_ble_eq_true rfl⟩ hl.1 (Nat.le_of_ble_eq_true rfl) d_R_statement_181 ⟨Nat.zero_le _, Nat.zero_le _⟩ (fun σ_42 H locs hw h => ?_)
    refine lv_iload_n (pc := 184) hx hb d_R_statement_184 rfl (lv_at hl 0 rfl) ?_
    refine lv_aload_n (pc := 185) hx hb d_R_statement_185 rfl (lv_at hl 1 rfl) ?_
    refine lv_bipush (pc := 186) (v := 63) hx hb d_R_statement_186 (by decide) ?_
    refine cxI (pc := 188) hX fx hw (c_R_bounded hX h) cw_R_364 (rcR_0 hw) rfl ⟨Nat.le_of_ble_eq_true rfl, Nat.le_of_ble_eq_true rfl⟩ hl.1 (Nat.le_of_ble_eq_true rfl) d_R_statement_188 ⟨Nat.zero_le _, Nat.zero_le _⟩ (fun r_45 σ_44 H locs hw h => ?_)
    refine lv_iadd (pc := 191) hx hb d_R_statement_191 ?_
    exact HR rfl d_R_statement_192 h hw
  replace h := h.2 cq_38
  by_cases cq_46 : xs_17 = (8 : Int32)
  · replace h := h.1 cq_46
    refine lv_tableIn (pc := 9) (off := 196) (tgt := 205) hx hb d_R_statement_9 (by rw [cq_46]; decide) (by rw [cq_46]; decide) (by rw [cq_46]; rfl) (by decide) ?_
    refine lv_iload_n (pc := 205) hx hb d_R_statement_205 rfl (lv_at hl 0 rfl) ?_
    exact HR rfl d_R_statement_206 h hw
  replace h := h.2 cq_46
  by_cases cq_47 : xs_17 = (9 : Int32)
  · replace h := h.1 cq_47
    refine lv_tableIn (pc := 9) (off := 184) (tgt := 193) hx hb d_R_statement_9 (by rw [cq_47]; decide) (by rw [cq_47]; decide) (by rw [cq_47]; rfl) (by decide) ?_
    refine lv_iload_n (pc := 193) hx hb d_R_statement_193 rfl (lv_at hl 0 rfl) ?_
    refine lv_sipush (pc := 194) (v := 2048) hx hb d_R_statement_194 (by decide) ?_
    refine lv_aload_n (pc := 197) hx hb d_R_statement_197 rfl (lv_at hl 1 rfl) ?_
    refine lv_iconst (pc := 198) (v := 3) hx hb d_R_statement_198 (by decide) ?_
    refine cxI (pc := 199) hX fx hw (c_R_bounded hX h) cw_R_364 (rcR_0 hw) rfl ⟨Nat.le_of_ble_eq_true rfl, Nat.le_of_ble_eq_true rfl⟩ hl.1 (Nat.le_of_ble_eq_true rfl) d_R_statement_199 ⟨Nat.zero_le _, Nat.zero_le _⟩ (fun r_49 σ_48 H locs hw h => ?_)
    refine lv_imul (pc := 202) hx hb d_R_statement_202 ?_
    refine lv_iadd (pc := 203) hx hb d_R_statement_203 ?_
    exact HR rfl d_R_statement_204 h hw
  replace h := h.2 cq_47
  refine lv_tableOut (pc := 9) (tgt := 205) hx hb d_R_statement_9 (by have := lv_neT cq_18 (a := 3) (by decide); have := lv_neT cq_21 (a := 4) (by decide); have := lv_neT cq_29 (a := 5) (by decide); have := lv_neT cq_35 (a := 6) (by decide); have := lv_neT cq_38 (a := 7) (by decide); have := lv_neT cq_46 (a := 8) (by decide); have := lv_neT cq_47 (a := 9) (by decide); omega) (by decide) ?_
  refine lv_iload_n (pc := 205) hx hb d_R_statement_205 rfl (lv_at hl 0 rfl) ?_
  exact HR rfl d_R_statement_206 h hw
end
theorem c_R_statement {l : Launch} {D : va_G} {cA : Nat → ClassId} {a : Nat → Nat} {X : (Nat → Prop) → State → Prop} (hX : XT X) {σ : SS} {post : Int32 → SS → Prop} (h : f_R_statement post σ) : mI l y_R_statement b_R_statement 2 (some .int) 7 167 D vcl (tyl cA) (wR cA a) X σ [.ref (a 0)] post := met_I (by decide) (Nat.le_of_ble_eq_true rfl) (fun p e s m args below meth c A Q fx HR H ls hw hl => e_R_statement hX fx HR h hw hl)
abbrev r_R_finish : Room := { frames := 1, cells := 0, slots := 0, locals := 21 }
def f_R_finish_64 (post : SS → Prop) (σ : SS) : Prop := br ((σ.1 25) = 0) (post σ) (f_R_stop (fun r_2 σ_1 => post σ_1) σ 6)
def f_R_finish_58 (post : SS → Prop) (k22 : SS → Int32 → Prop) (σ : SS) (x1 : Int32) : Prop := nm (x1 + 1) fun x1_3 => k22 σ x1_3
def f_R_finish_22 (post : SS → Prop) : Nat → SS → Int32 → Prop
  | 0, _, _ => False
  | n + 1, σ, x1 => br ((σ.1 24) ≤ x1) (f_R_finish_64 post σ) (br ((σ.1 13) = 0) (vp_in x1 8 ∧ vp_in x1 8 ∧ br ((σ.2.1 16 x1.toNatClampNeg) ≤ (σ.2.1 17 x1.toNatClampNeg)) (f_R_finish_58 post (f_R_finish_22 post n) σ x1) (f_R_stop (fun r_5 σ_4 => f_R_finish_58 post (f_R_finish_22 post n) σ_4 x1) σ 5)) (f_R_finish_64 post σ))
def f_R_finish_20 (post : SS → Prop) (σ : SS) : Prop := ∃ n9, f_R_finish_22 post n9 σ 0
def f_R_finish (post : SS → Prop) (σ : SS) : Prop := br ((σ.1 13) = 0) (br ((σ.1 22) = 0) (f_R_finish_20 post σ) (f_R_stop (fun r_7 σ_6 => f_R_finish_20 post σ_6) σ 2)) (f_R_finish_20 post σ)
section
variable {p : Program} {l : Launch} {e : Env} {s : State} {m : MethodId} {args : Array Value} {below : List Frame} {meth : Method} {c : Code} {Q : State → Prop} {D : va_G} {cA : Nat → ClassId} {a : Nat → Nat} {X : (Nat → Prop) → State → Prop} {A : Nat → Prop}
set_option maxHeartbeats 4000000 in
set_option maxRecDepth 100000 in
theorem c_R_finish_64 (hX : XT X) (fx : CallFix p m c b_R_finish 2 s args GW RNR) {post : SS → Prop} (HR : RetV p l e r_R_finish s m args below meth c Q D vcl (tyl cA) (wR cA a) X A b_R_finish post) {σ : SS} {H : Heap} {locs : List Loc} {ls : Array Slot} (h : f_R_finish_64 post σ) (hw : CX D vcl (tyl cA) (wR cA a σ) X A s H locs) (hl : lv_has ls 2 [(0, .ref (a 0))]) : W p l e r_R_finish s m args below meth c H locs 0 0 Q (F0 m 64 ls []) := by
  have hx := fx.1
  have hb := fx.2.1
  unfold f_R_finish_64 at h
  refine lv_aload_n (pc := 64) hx hb d_R_finish_64 rfl (lv_at hl 0 rfl) ?_
  refine gR_0_outside (pc := 65) fx hw kw_1110 d_R_finish_65 ?_
  refine lv_if_eq (pc := 68) (tgt := 78) hx hb d_R_finish_68 (by decide) (fun c9 => ?_) (fun c9 => ?_)
  · replace h := h.1 c9
    exact HR d_R_finish_78 h hw
  · replace h := h.2 c9
    refine lv_aload_n (pc := 71) hx hb d_R_finish_71 rfl (lv_at hl 0 rfl) ?_
    refine lv_bipush (pc := 72) (v := 6) hx hb d_R_finish_72 (by decide) ?_
    refine cxI (pc := 74) hX fx hw (c_R_stop hX h) cw_R_191 (rcR_0 hw) rfl ⟨Nat.le_of_ble_eq_true rfl, Nat.le_of_ble_eq_true rfl⟩ hl.1 (Nat.le_of_ble_eq_true rfl) d_R_finish_74 ⟨Nat.zero_le _, Nat.zero_le _⟩ (fun r_2 σ_1 H locs hw h => ?_)
    have zr_2 := h.1
    replace h := h.2
    refine lv_pop (pc := 77) hx hb d_R_finish_77 rfl ?_
    exact HR d_R_finish_78 h hw
set_option maxHeartbeats 4000000 in
set_option maxRecDepth 100000 in
theorem c_R_finish_58 (hX : XT X) (fx : CallFix p m c b_R_finish 2 s args GW RNR) {post : SS → Prop} (HR : RetV p l e r_R_finish s m args below meth c Q D vcl (tyl cA) (wR cA a) X A b_R_finish post) {k22 : SS → Int32 → Prop} (K22 : ∀ {σ : SS} {x1 : Int32} {H : Heap} {locs : List Loc} {ls : Array Slot}, k22 σ x1 → CX D vcl (tyl cA) (wR cA a σ) X A s H locs → lv_has ls 2 [(0, .ref (a 0)), (1, .int x1)] → W p l e r_R_finish s m args below meth c H locs 0 0 Q (F0 m 22 ls [])) {σ : SS} {x1 : Int32} {H : Heap} {locs : List Loc} {ls : Array Slot} (h : f_R_finish_58 post k22 σ x1) (hw : CX D vcl (tyl cA) (wR cA a σ) X A s H locs) (hl : lv_has ls 2 [(0, .ref (a 0)), (1, .int x1)]) : W p l e r_R_finish s m args below meth c H locs 0 0 Q (F0 m 58 ls []) := by
  have hx := fx.1
  have hb := fx.2.1
  unfold f_R_finish_58 at h
  obtain ⟨x1_3, e9⟩ : ∃ z : Int32, z = x1 + 1 := ⟨_, rfl⟩
  replace h := nm_u h e9
  refine lv_iinc (pc := 58) (v := x1_3) (lv' := [(1, .int x1_3), (0, .ref (a 0))]) hx hb d_R_finish_58 hl (k := 1) rfl (by rw [e9]; rfl) (by decide) rfl (fun ls hl => ?_)
  clear e9
  refine lv_goto (pc := 61) (tgt := 22) hx hb d_R_finish_61 (by decide) ?_
  exact K22 h hw (lv_sub hl [1, 0] rfl)
set_option maxHeartbeats 4000000 in
set_option maxRecDepth 100000 in
theorem c_R_finish_22 (hX : XT X) (fx : CallFix p m c b_R_finish 2 s args GW RNR) {post : SS → Prop} (HR : RetV p l e r_R_finish s m args below meth c Q D vcl (tyl cA) (wR cA a) X A b_R_finish post) : ∀ (n : Nat) {σ : SS} {x1 : Int32} {H : Heap} {locs : List Loc} {ls : Array Slot}, f_R_finish_22 post n σ x1 → CX D vcl (tyl cA) (wR cA a σ) X A s H locs → lv_has ls 2 [(0, .ref (a 0)), (1, .int x1)] → W p l e r_R_finish s m args below meth c H locs 0 0 Q (F0 m 22 ls []) := by
  have hx := fx.1
  have hb := fx.2.1
  intro n
  induction n with
  | zero => intro σ x1 H locs ls h; exact h.elim
  | succ n ih =>
    intro σ x1 H locs ls h hw hl
    have K22 := @ih
    unfold f_R_finish_22 at h
    refine lv_iload_n (pc := 22) hx hb d_R_finish_22 rfl (lv_at hl 1 rfl) ?_
    refine lv_aload_n (pc := 23) hx hb d_R_finish_23 rfl (lv_at hl 0 rfl) ?_
    refine gR_0_askedCount (pc := 24) fx hw kw_1109 d_R_finish_24 ?_
    refine lv_icmp_ge (pc := 27) (tgt := 64) hx hb d_R_finish_27 (by decide) (fun c9 => ?_) (fun c9 => ?_)
    · replace h := h.1 c9
      exact c_R_finish_64 hX fx HR h hw (lv_sub hl [0] rfl)
    · replace h := h.2 c9
      refine lv_aload_n (pc := 30) hx hb d_R_finish_30 rfl (lv_at hl 0 rfl) ?_
      refine gR_0_fault (pc := 31) fx hw kw_1089 d_R_finish_31 ?_
      refine lv_if_ne (pc := 34) (tgt := 64) hx hb d_R_finish_34 (by decide) (fun c9 => ?_) (fun c9 => ?_)
      · replace h := h.2 c9
        exact c_R_finish_64 hX fx HR h hw (lv_sub hl [0] rfl)
      · replace h := h.1 c9
        refine lv_aload_n (pc := 37) hx hb d_R_finish_37 rfl (lv_at hl 0 rfl) ?_
        refine gR_0_asked (pc := 38) fx hw kw_1107 d_R_finish_38 ?_
        refine lv_iload_n (pc := 41) hx hb d_R_finish_41 rfl (lv_at hl 1 rfl) ?_
        refine alR_16 (pc := 42) fx hw h.1 d_R_finish_42 ?_
        replace h := h.2
        refine lv_aload_n (pc := 43) hx hb d_R_finish_43 rfl (lv_at hl 0 rfl) ?_
        refine gR_0_bounds (pc := 44) fx hw kw_1108 d_R_finish_44 ?_
        refine lv_iload_n (pc := 47) hx hb d_R_finish_47 rfl (lv_at hl 1 rfl) ?_
        refine alR_17 (pc := 48) fx hw h.1 d_R_finish_48 ?_
        replace h := h.2
        refine lv_icmp_le (pc := 49) (tgt := 58) hx hb d_R_finish_49 (by decide) (fun c9 => ?_) (fun c9 => ?_)
        · replace h := h.1 c9
          exact c_R_finish_58 hX fx HR K22 h hw (lv_sub hl [0, 1] rfl)
        · replace h := h.2 c9
          refine lv_aload_n (pc := 52) hx hb d_R_finish_52 rfl (lv_at hl 0 rfl) ?_
          refine lv_iconst (pc := 53) (v := 5) hx hb d_R_finish_53 (by decide) ?_
          refine cxI (pc := 54) hX fx hw (c_R_stop hX h) cw_R_191 (rcR_0 hw) rfl ⟨Nat.le_of_ble_eq_true rfl, Nat.le_of_ble_eq_true rfl⟩ hl.1 (Nat.le_of_ble_eq_true rfl) d_R_finish_54 ⟨Nat.zero_le _, Nat.zero_le _⟩ (fun r_5 σ_4 H locs hw h => ?_)
          have zr_5 := h.1
          replace h := h.2
          refine lv_pop (pc := 57) hx hb d_R_finish_57 rfl ?_
          exact c_R_finish_58 hX fx HR K22 h hw (lv_sub hl [0, 1] rfl)
set_option maxHeartbeats 4000000 in
set_option maxRecDepth 100000 in
theorem c_R_finish_20 (hX : XT X) (fx : CallFix p m c b_R_finish 2 s args GW RNR) {post : SS → Prop} (HR : RetV p l e r_R_finish s m args below meth c Q D vcl (tyl cA) (wR cA a) X A b_R_finish post) {σ : SS} {H : Heap} {locs : List Loc} {ls : Array Slot} (h : f_R_finish_20 post σ) (hw : CX D vcl (tyl cA) (wR cA a σ) X A s H locs) (hl : lv_has ls 2 [(0, .ref (a 0))]) : W p l e r_R_finish s m args below meth c H locs 0 0 Q (F0 m 20 ls []) := by
  have hx := fx.1
  have hb := fx.2.1
  unfold f_R_finish_20 at h
  refine lv_iconst (pc := 20) (v := 0) hx hb d_R_finish_20 (by decide) ?_
  refine lv_istore_n (pc := 21) (lv' := [(1, .int 0), (0, .ref (a 0))]) hx hb d_R_finish_21 rfl hl (by decide) rfl (fun ls hl => ?_)
  obtain ⟨n9, h⟩ := h
  exact c_R_finish_22 hX fx HR n9 h hw (lv_sub hl [1, 0] rfl)
set_option maxHeartbeats 4000000 in
set_option maxRecDepth 100000 in
theorem e_R_finish (hX : XT X) (fx : CallFix p m c b_R_finish 2 s args GW RNR) {post : SS → Prop} (HR : RetV p l e r_R_finish s m args below meth c Q D vcl (tyl cA) (wR cA a) X A b_R_finish post) {σ : SS} {H : Heap} {locs : List Loc} {ls : Array Slot} (h : f_R_finish post σ) (hw : CX D vcl (tyl cA) (wR cA a σ) X A s H locs) (hl : lv_has ls 2 [(0, .ref (a 0))]) : W p l e r_R_finish s m args below meth c H locs 0 0 Q (F0 m 0 ls []) := by
  have hx := fx.1
  have hb := fx.2.1
  unfold f_R_finish at h
  refine lv_aload_n (pc := 0) hx hb d_R_finish_0 rfl (lv_at hl 0 rfl) ?_
  refine gR_0_fault (pc := 1) fx hw kw_1089 d_R_finish_1 ?_
  refine lv_if_ne (pc := 4) (tgt := 20) hx hb d_R_finish_4 (by decide) (fun c9 => ?_) (fun c9 => ?_)
  · replace h := h.2 c9
    exact c_R_finish_20 hX fx HR h hw (lv_sub hl [0] rfl)
  · replace h := h.1 c9
    refine lv_aload_n (pc := 7) hx hb d_R_finish_7 rfl (lv_at hl 0 rfl) ?_
    refine gR_0_kind (pc := 8) fx hw kw_1104 d_R_finish_8 ?_
    refine lv_if_eq (pc := 11) (tgt := 20) hx hb d_R_finish_11 (by decide) (fun c9 => ?_) (fun c9 => ?_)
    · replace h := h.1 c9
      exact c_R_finish_20 hX fx HR h hw (lv_sub hl [0] rfl)
    · replace h := h.2 c9
      refine lv_aload_n (pc := 14) hx hb d_R_finish_14 rfl (lv_at hl 0 rfl) ?_
      refine lv_iconst (pc := 15) (v := 2) hx hb d_R_finish_15 (by decide) ?_
      refine cxI (pc := 16) hX fx hw (c_R_stop hX h) cw_R_191 (rcR_0 hw) rfl ⟨Nat.le_of_ble_eq_true rfl, Nat.le_of_ble_eq_true rfl⟩ hl.1 (Nat.le_of_ble_eq_true rfl) d_R_finish_16 ⟨Nat.zero_le _, Nat.zero_le _⟩ (fun r_7 σ_6 H locs hw h => ?_)
      have zr_7 := h.1
      replace h := h.2
      refine lv_pop (pc := 19) hx hb d_R_finish_19 rfl ?_
      exact c_R_finish_20 hX fx HR h hw (lv_sub hl [0] rfl)
end
theorem c_R_finish {l : Launch} {D : va_G} {cA : Nat → ClassId} {a : Nat → Nat} {X : (Nat → Prop) → State → Prop} (hX : XT X) {σ : SS} {post : SS → Prop} (h : f_R_finish post σ) : mV l y_R_finish b_R_finish 2 none 1 21 D vcl (tyl cA) (wR cA a) X σ [.ref (a 0)] post := met_V (by decide) (Nat.le_of_ble_eq_true rfl) (fun p e s m args below meth c A Q fx HR H ls hw hl => e_R_finish hX fx HR h hw hl)
abbrev r_R_addLabel : Room := { frames := 4, cells := 0, slots := 0, locals := 105 }
def f_R_addLabel_58 (post : SS → Prop) (σ : SS) (x1 : Int64) : Prop := br ((σ.1 13) = 0) (vp_in (σ.1 16) 200 ∧ nm (sB σ 10 (σ.1 16).toNatClampNeg x1) fun σ_1 => vp_in (σ_1.1 16) 200 ∧ nm (sA σ_1 11 (σ_1.1 16).toNatClampNeg (σ_1.1 19)) fun σ_2 => nm (sI σ_2 16 ((σ_2.1 16) + 1)) fun σ_3 => post σ_3) (post σ)
def f_R_addLabel_41 (post : SS → Prop) (σ : SS) (x1 : Int64) : Prop := br ((σ.1 16) = 200) (f_R_stop (fun r_5 σ_4 => f_R_addLabel_58 post σ_4 x1) σ 7) (f_R_addLabel_58 post σ x1)
def f_R_addLabel_35 (post : SS → Prop) (σ : SS) (x1 : Int64) : Prop := f_R_stop (fun r_7 σ_6 => f_R_addLabel_41 post σ_6 x1) σ 4
def f_R_addLabel (post : SS → Prop) (σ : SS) (x1 : Int64) : Prop := f_R_classify (fun σ_8 => br ((lg_cmp x1 46) = 0) (f_R_addLabel_35 post σ_8 x1) (f_R_fixed (fun r_11 σ_10 => br (0 ≤ r_11) (f_R_addLabel_35 post σ_10 x1) (br (0 < (σ_10.1 26)) (f_R_addLabel_35 post σ_10 x1) (f_R_labelOf (fun r_13 σ_12 => br (r_13 < 0) (f_R_addLabel_41 post σ_12 x1) (f_R_addLabel_35 post σ_12 x1)) σ_10 x1))) σ_8 x1)) σ x1
section
variable {p : Program} {l : Launch} {e : Env} {s : State} {m : MethodId} {args : Array Value} {below : List Frame} {meth : Method} {c : Code} {Q : State → Prop} {D : va_G} {cA : Nat → ClassId} {a : Nat → Nat} {X : (Nat → Prop) → State → Prop} {A : Nat → Prop}
set_option maxHeartbeats 4000000 in
set_option maxRecDepth 100000 in
theorem c_R_addLabel_58 (hX : XT X) (fx : CallFix p m c b_R_addLabel 3 s args GW RNR) {post : SS → Prop} (HR : RetV p l e r_R_addLabel s m args below meth c Q D vcl (tyl cA) (wR cA a) X A b_R_addLabel post) {σ : SS} {x1 : Int64} {H : Heap} {locs : List Loc} {ls : Array Slot} (h : f_R_addLabel_58 post σ x1) (hw : CX D vcl (tyl cA) (wR cA a σ) X A s H locs) (hl : lv_has ls 3 [(0, .ref (a 0)), (1, .long x1)]) : W p l e r_R_addLabel s m args below meth c H locs 0 0 Q (F0 m 58 ls []) := by
  have hx := fx.1
  have hb := fx.2.1
  unfold f_R_addLabel_58 at h
  refine lv_aload_n (pc := 58) hx hb d_R_addLabel_58 rfl (lv_at hl 0 rfl) ?_
  refine gR_0_fault (pc := 59) fx hw kw_1089 d_R_addLabel_59 ?_
  refine lv_if_eq (pc := 62) (tgt := 66) hx hb d_R_addLabel_62 (by decide) (fun c9 => ?_) (fun c9 => ?_)
  · replace h := h.1 c9
    refine lv_aload_n (pc := 66) hx hb d_R_addLabel_66 rfl (lv_at hl 0 rfl) ?_
    refine gR_0_labels (pc := 67) fx hw kw_1092 d_R_addLabel_67 ?_
    refine lv_aload_n (pc := 70) hx hb d_R_addLabel_70 rfl (lv_at hl 0 rfl) ?_
    refine gR_0_labelCount (pc := 71) fx hw kw_1094 d_R_addLabel_71 ?_
    refine lv_lload_n (pc := 74) hx hb d_R_addLabel_74 rfl (lv_at hl 1 rfl) ?_
    refine asR_10 (pc := 75) fx hw h.1 d_R_addLabel_75 (fun σ_1 e9 H locs hw => ?_)
    replace h := nm_u h.2 e9
    clear e9
    refine lv_aload_n (pc := 76) hx hb d_R_addLabel_76 rfl (lv_at hl 0 rfl) ?_
    refine gR_0_places (pc := 77) fx hw kw_1093 d_R_addLabel_77 ?_
    refine lv_aload_n (pc := 80) hx hb d_R_addLabel_80 rfl (lv_at hl 0 rfl) ?_
    refine gR_0_labelCount (pc := 81) fx hw kw_1094 d_R_addLabel_81 ?_
    refine lv_aload_n (pc := 84) hx hb d_R_addLabel_84 rfl (lv_at hl 0 rfl) ?_
    refine gR_0_here (pc := 85) fx hw kw_1101 d_R_addLabel_85 ?_
    refine asR_11 (pc := 88) fx hw h.1 d_R_addLabel_88 (fun σ_2 e9 H locs hw => ?_)
    replace h := nm_u h.2 e9
    clear e9
    refine lv_aload_n (pc := 89) hx hb d_R_addLabel_89 rfl (lv_at hl 0 rfl) ?_
    refine lv_dup (pc := 90) hx hb d_R_addLabel_90 rfl ?_
    refine gR_0_labelCount (pc := 91) fx hw kw_1094 d_R_addLabel_91 ?_
    refine lv_iconst (pc := 94) (v := 1) hx hb d_R_addLabel_94 (by decide) ?_
    refine lv_iadd (pc := 95) hx hb d_R_addLabel_95 ?_
    refine pR_0_labelCount (pc := 96) fx hw kw_1094 d_R_addLabel_96 (fun σ_3 e9 H locs hw => ?_)
    replace h := nm_u h e9
    clear e9
    exact HR d_R_addLabel_99 h hw
  · replace h := h.2 c9
    exact HR d_R_addLabel_65 h hw
set_option maxHeartbeats 4000000 in
set_option maxRecDepth 100000 in
theorem c_R_addLabel_41 (hX : XT X) (fx : CallFix p m c b_R_addLabel 3 s args GW RNR) {post : SS → Prop} (HR : RetV p l e r_R_addLabel s m args below meth c Q D vcl (tyl cA) (wR cA a) X A b_R_addLabel post) {σ : SS} {x1 : Int64} {H : Heap} {locs : List Loc} {ls : Array Slot} (h : f_R_addLabel_41 post σ x1) (hw : CX D vcl (tyl cA) (wR cA a σ) X A s H locs) (hl : lv_has ls 3 [(0, .ref (a 0)), (1, .long x1)]) : W p l e r_R_addLabel s m args below meth c H locs 0 0 Q (F0 m 41 ls []) := by
  have hx := fx.1
  have hb := fx.2.1
  unfold f_R_addLabel_41 at h
  refine lv_aload_n (pc := 41) hx hb d_R_addLabel_41 rfl (lv_at hl 0 rfl) ?_
  refine gR_0_labelCount (pc := 42) fx hw kw_1094 d_R_addLabel_42 ?_
  refine lv_sipush (pc := 45) (v := 200) hx hb d_R_addLabel_45 (by decide) ?_
  refine lv_icmp_ne (pc := 48) (tgt := 58) hx hb d_R_addLabel_48 (by decide) (fun c9 => ?_) (fun c9 => ?_)
  · replace h := h.2 c9
    exact c_R_addLabel_58 hX fx HR h hw (lv_sub hl [0, 1] rfl)
  · replace h := h.1 c9
    refine lv_aload_n (pc := 51) hx hb d_R_addLabel_51 rfl (lv_at hl 0 rfl) ?_
    refine lv_bipush (pc := 52) (v := 7) hx hb d_R_addLabel_52 (by decide) ?_
    refine cxI (pc := 54) hX fx hw (c_R_stop hX h) cw_R_191 (rcR_0 hw) rfl ⟨Nat.le_of_ble_eq_true rfl, Nat.le_of_ble_eq_true rfl⟩ hl.1 (Nat.le_of_ble_eq_true rfl) d_R_addLabel_54 ⟨Nat.zero_le _, Nat.zero_le _⟩ (fun r_5 σ_4 H locs hw h => ?_)
    have zr_5 := h.1
    replace h := h.2
    refine lv_pop (pc := 57) hx hb d_R_addLabel_57 rfl ?_
    exact c_R_addLabel_58 hX fx HR h hw (lv_sub hl [0, 1] rfl)
set_option maxHeartbeats 4000000 in
set_option maxRecDepth 100000 in
theorem c_R_addLabel_35 (hX : XT X) (fx : CallFix p m c b_R_addLabel 3 s args GW RNR) {post : SS → Prop} (HR : RetV p l e r_R_addLabel s m args below meth c Q D vcl (tyl cA) (wR cA a) X A b_R_addLabel post) {σ : SS} {x1 : Int64} {H : Heap} {locs : List Loc} {ls : Array Slot} (h : f_R_addLabel_35 post σ x1) (hw : CX D vcl (tyl cA) (wR cA a σ) X A s H locs) (hl : lv_has ls 3 [(0, .ref (a 0)), (1, .long x1)]) : W p l e r_R_addLabel s m args below meth c H locs 0 0 Q (F0 m 35 ls []) := by
  have hx := fx.1
  have hb := fx.2.1
  unfold f_R_addLabel_35 at h
  refine lv_aload_n (pc := 35) hx hb d_R_addLabel_35 rfl (lv_at hl 0 rfl) ?_
  refine lv_iconst (pc := 36) (v := 4) hx hb d_R_addLabel_36 (by decide) ?_
  refine cxI (pc := 37) hX fx hw (c_R_stop hX h) cw_R_191 (rcR_0 hw) rfl ⟨Nat.le_of_ble_eq_true rfl, Nat.le_of_ble_eq_true rfl⟩ hl.1 (Nat.le_of_ble_eq_true rfl) d_R_addLabel_37 ⟨Nat.zero_le _, Nat.zero_le _⟩ (fun r_7 σ_6 H locs hw h => ?_)
  have zr_7 := h.1
  replace h := h.2
  refine lv_pop (pc := 40) hx hb d_R_addLabel_40 rfl ?_
  exact c_R_addLabel_41 hX fx HR h hw (lv_sub hl [0, 1] rfl)
set_option maxHeartbeats 4000000 in
set_option maxRecDepth 100000 in
theorem e_R_addLabel (hX : XT X) (fx : CallFix p m c b_R_addLabel 3 s args GW RNR) {post : SS → Prop} (HR : RetV p l e r_R_addLabel s m args below meth c Q D vcl (tyl cA) (wR cA a) X A b_R_addLabel post) {σ : SS} {x1 : Int64} {H : Heap} {locs : List Loc} {ls : Array Slot} (h : f_R_addLabel post σ x1) (hw : CX D vcl (tyl cA) (wR cA a σ) X A s H locs) (hl : lv_has ls 3 [(0, .ref (a 0)), (1, .long x1)]) : W p l e r_R_addLabel s m args below meth c H locs 0 0 Q (F0 m 0 ls []) := by
  have hx := fx.1
  have hb := fx.2.1
  unfold f_R_addLabel at h
  refine lv_aload_n (pc := 0) hx hb d_R_addLabel_0 rfl (lv_at hl 0 rfl) ?_
  refine lv_lload_n (pc := 1) hx hb d_R_addLabel_1 rfl (lv_at hl 1 rfl) ?_
  refine cxU (pc := 2) hX fx hw (c_R_classify hX h) cw_R_377 (rcR_0 hw) rfl ⟨Nat.le_of_ble_eq_true rfl, Nat.le_of_ble_eq_true rfl⟩ hl.1 (Nat.le_of_ble_eq_true rfl) d_R_addLabel_2 ⟨Nat.zero_le _, Nat.zero_le _⟩ (fun σ_8 H locs hw h => ?_)
  refine lv_lload_n (pc := 5) hx hb d_R_addLabel_5 rfl (lv_at hl 1 rfl) ?_
  refine lv_ldc2 (pc := 6) (v := 46) hx hb fx.2.2.2.1 (fx.2.2.2.2 _ kw_1447) d_R_addLabel_6 ?_
  refine W.lcmp (pc := 9) hx hb d_R_addLabel_9 ?_
  refine lv_if_eq (pc := 10) (tgt := 35) hx hb d_R_addLabel_10 (by decide) (fun c9 => ?_) (fun c9 => ?_)
  · replace h := h.1 c9
    exact c_R_addLabel_35 hX fx HR h hw (lv_sub hl [0, 1] rfl)
  · replace h := h.2 c9
    refine lv_lload_n (pc := 13) hx hb d_R_addLabel_13 rfl (lv_at hl 1 rfl) ?_
    refine cxSI (pc := 14) hX fx hw (c_R_fixed hX h) cw_R_340 rfl ⟨Nat.le_of_ble_eq_true rfl, Nat.le_of_ble_eq_true rfl⟩ hl.1 (Nat.le_of_ble_eq_true rfl) d_R_addLabel_14 ⟨Nat.zero_le _, Nat.zero_le _⟩ (fun r_11 σ_10 H locs hw h => ?_)
    refine lv_if_ge (pc := 17) (tgt := 35) hx hb d_R_addLabel_17 (by decide) (fun c9 => ?_) (fun c9 => ?_)
    · replace h := h.1 c9
      exact c_R_addLabel_35 hX fx HR h hw (lv_sub hl [0, 1] rfl)
    · replace h := h.2 c9
      refine lv_aload_n (pc := 20) hx hb d_R_addLabel_20 rfl (lv_at hl 0 rfl) ?_
      refine gR_0_sort (pc := 21) fx hw kw_1111 d_R_addLabel_21 ?_
      refine lv_if_gt (pc := 24) (tgt := 35) hx hb d_R_addLabel_24 (by decide) (fun c9 => ?_) (fun c9 => ?_)
      · replace h := h.1 c9
        exact c_R_addLabel_35 hX fx HR h hw (lv_sub hl [0, 1] rfl)
      · replace h := h.2 c9
        refine lv_aload_n (pc := 27) hx hb d_R_addLabel_27 rfl (lv_at hl 0 rfl) ?_
        refine lv_lload_n (pc := 28) hx hb d_R_addLabel_28 rfl (lv_at hl 1 rfl) ?_
        refine cxI (pc := 29) hX fx hw (c_R_labelOf hX h) cw_R_343 (rcR_0 hw) rfl ⟨Nat.le_of_ble_eq_true rfl, Nat.le_of_ble_eq_true rfl⟩ hl.1 (Nat.le_of_ble_eq_true rfl) d_R_addLabel_29 ⟨Nat.zero_le _, Nat.zero_le _⟩ (fun r_13 σ_12 H locs hw h => ?_)
        refine lv_if_lt (pc := 32) (tgt := 41) hx hb d_R_addLabel_32 (by decide) (fun c9 => ?_) (fun c9 => ?_)
        · replace h := h.1 c9
          exact c_R_addLabel_41 hX fx HR h hw (lv_sub hl [0, 1] rfl)
        · replace h := h.2 c9
          exact c_R_addLabel_35 hX fx HR h hw (lv_sub hl [0, 1] rfl)
end
theorem c_R_addLabel {l : Launch} {D : va_G} {cA : Nat → ClassId} {a : Nat → Nat} {X : (Nat → Prop) → State → Prop} (hX : XT X) {σ : SS} {post : SS → Prop} {x1 : Int64} (h : f_R_addLabel post σ x1) : mV l y_R_addLabel b_R_addLabel 3 none 4 105 D vcl (tyl cA) (wR cA a) X σ [.ref (a 0), .long x1] post := met_V (by decide) (Nat.le_of_ble_eq_true rfl) (fun p e s m args below meth c A Q fx HR H ls hw hl => e_R_addLabel hX fx HR h hw hl)
abbrev r_R_moves : Room := { frames := 6, cells := 0, slots := 0, locals := 143 }
def f_R_moves_95 (post : SS → Prop) (σ : SS) (s0 : Int32) : Prop := nm (sI σ 19 s0) fun σ_1 => post σ_1
def f_R_moves_80 (post : SS → Prop) (σ : SS) (x1 : Int32) (x2 : Int32) : Prop := br (x1 = 0) (f_R_moves_95 post σ ((σ.1 19) + x2)) (f_R_moves_95 post σ x2)
def f_R_moves_42 (post : SS → Prop) (σ : SS) (x1 : Int32) (s0 : Int32) : Prop := f_R_finish (fun σ_2 => br ((σ_2.1 13) = 0) (br (x1 = 0) (br (((σ_2.1 19) + s0) ≤ 32768) (f_R_moves_80 post σ_2 x1 s0) (f_R_stop (fun r_5 σ_4 => post σ_4) σ_2 7)) (f_R_moves_80 post σ_2 x1 s0)) (post σ_2)) σ
def f_R_moves_13 (post : SS → Prop) (σ : SS) (s0 : Int32) : Prop := nm (sI σ 24 0) fun σ_6 => nm (sI σ_6 25 0) fun σ_7 => br (s0 = 0) (f_R_expression (fun r_9 σ_8 => f_R_moves_42 post σ_8 s0 r_9) σ_7) (f_R_bounded (fun r_11 σ_10 => f_R_moves_42 post σ_10 s0 r_11) σ_7 32767)
def f_R_moves (post : SS → Prop) (σ : SS) : Prop := br ((σ.1 26) = 1) (f_R_moves_13 post σ 1) (f_R_moves_13 post σ 0)
section
variable {p : Program} {l : Launch} {e : Env} {s : State} {m : MethodId} {args : Array Value} {below : List Frame} {meth : Method} {c : Code} {Q : State → Prop} {D : va_G} {cA : Nat → ClassId} {a : Nat → Nat} {X : (Nat → Prop) → State → Prop} {A : Nat → Prop}
set_option maxHeartbeats 4000000 in
set_option maxRecDepth 100000 in
theorem c_R_moves_95 (hX : XT X) (fx : CallFix p m c b_R_moves 3 s args GW RNR) {post : SS → Prop} (HR : RetV p l e r_R_moves s m args below meth c Q D vcl (tyl cA) (wR cA a) X A b_R_moves post) {σ : SS} {s0 : Int32} {H : Heap} {locs : List Loc} {ls : Array Slot} (h : f_R_moves_95 post σ s0) (hw : CX D vcl (tyl cA) (wR cA a σ) X A s H locs) (hl : lv_has ls 3 []) : W p l e r_R_moves s m args below meth c H locs 0 0 Q (F0 m 95 ls [.int s0, .ref (a 0)]) := by
  have hx := fx.1
  have hb := fx.2.1
  unfold f_R_moves_95 at h
  refine pR_0_here (pc := 95) fx hw kw_1101 d_R_moves_95 (fun σ_1 e9 H locs hw => ?_)
  replace h := nm_u h e9
  clear e9
  exact HR d_R_moves_98 h hw
set_option maxHeartbeats 4000000 in
set_option maxRecDepth 100000 in
theorem c_R_moves_80 (hX : XT X) (fx : CallFix p m c b_R_moves 3 s args GW RNR) {post : SS → Prop} (HR : RetV p l e r_R_moves s m args below meth c Q D vcl (tyl cA) (wR cA a) X A b_R_moves post) {σ : SS} {x1 : Int32} {x2 : Int32} {H : Heap} {locs : List Loc} {ls : Array Slot} (h : f_R_moves_80 post σ x1 x2) (hw : CX D vcl (tyl cA) (wR cA a σ) X A s H locs) (hl : lv_has ls 3 [(0, .ref (a 0)), (1, .int x1), (2, .int x2)]) : W p l e r_R_moves s m args below meth c H locs 0 0 Q (F0 m 80 ls []) := by
  have hx := fx.1
  have hb := fx.2.1
  unfold f_R_moves_80 at h
  refine lv_aload_n (pc := 80) hx hb d_R_moves_80 rfl (lv_at hl 0 rfl) ?_
  refine lv_iload_n (pc := 81) hx hb d_R_moves_81 rfl (lv_at hl 1 rfl) ?_
  refine lv_if_eq (pc := 82) (tgt := 89) hx hb d_R_moves_82 (by decide) (fun c9 => ?_) (fun c9 => ?_)
  · replace h := h.1 c9
    refine lv_aload_n (pc := 89) hx hb d_R_moves_89 rfl (lv_at hl 0 rfl) ?_
    refine gR_0_here (pc := 90) fx hw kw_1101 d_R_moves_90 ?_
    refine lv_iload_n (pc := 93) hx hb d_R_moves_93 rfl (lv_at hl 2 rfl) ?_
    refine lv_iadd (pc := 94) hx hb d_R_moves_94 ?_
    exact c_R_moves_95 hX fx HR h hw (lv_sub hl [] rfl)
  · replace h := h.2 c9
    refine lv_iload_n (pc := 85) hx hb d_R_moves_85 rfl (lv_at hl 2 rfl) ?_
    refine lv_goto (pc := 86) (tgt := 95) hx hb d_R_moves_86 (by decide) ?_
    exact c_R_moves_95 hX fx HR h hw (lv_sub hl [] rfl)
set_option maxHeartbeats 4000000 in
set_option maxRecDepth 100000 in
theorem c_R_moves_42 (hX : XT X) (fx : CallFix p m c b_R_moves 3 s args GW RNR) {post : SS → Prop} (HR : RetV p l e r_R_moves s m args below meth c Q D vcl (tyl cA) (wR cA a) X A b_R_moves post) {σ : SS} {x1 : Int32} {s0 : Int32} {H : Heap} {locs : List Loc} {ls : Array Slot} (h : f_R_moves_42 post σ x1 s0) (hw : CX D vcl (tyl cA) (wR cA a σ) X A s H locs) (hl : lv_has ls 3 [(0, .ref (a 0)), (1, .int x1)]) : W p l e r_R_moves s m args below meth c H locs 0 0 Q (F0 m 42 ls [.int s0]) := by
  have hx := fx.1
  have hb := fx.2.1
  unfold f_R_moves_42 at h
  refine lv_istore_n (pc := 42) (lv' := [(2, .int s0), (0, .ref (a 0)), (1, .int x1)]) hx hb d_R_moves_42 rfl hl (by decide) rfl (fun ls hl => ?_)
  refine lv_aload_n (pc := 43) hx hb d_R_moves_43 rfl (lv_at hl 1 rfl) ?_
  refine cxU (pc := 44) hX fx hw (c_R_finish hX h) cw_R_380 (rcR_0 hw) rfl ⟨Nat.le_of_ble_eq_true rfl, Nat.le_of_ble_eq_true rfl⟩ hl.1 (Nat.le_of_ble_eq_true rfl) d_R_moves_44 ⟨Nat.zero_le _, Nat.zero_le _⟩ (fun σ_2 H locs hw h => ?_)
  refine lv_aload_n (pc := 47) hx hb d_R_moves_47 rfl (lv_at hl 1 rfl) ?_
  refine gR_0_fault (pc := 48) fx hw kw_1089 d_R_moves_48 ?_
  refine lv_if_eq (pc := 51) (tgt := 55) hx hb d_R_moves_51 (by decide) (fun c9 => ?_) (fun c9 => ?_)
  · replace h := h.1 c9
    refine lv_iload_n (pc := 55) hx hb d_R_moves_55 rfl (lv_at hl 2 rfl) ?_
    refine lv_if_ne (pc := 56) (tgt := 80) hx hb d_R_moves_56 (by decide) (fun c9 => ?_) (fun c9 => ?_)
    · replace h := h.2 c9
      exact c_R_moves_80 hX fx HR h hw (lv_sub hl [1, 2, 0] rfl)
    · replace h := h.1 c9
      refine lv_aload_n (pc := 59) hx hb d_R_moves_59 rfl (lv_at hl 1 rfl) ?_
      refine gR_0_here (pc := 60) fx hw kw_1101 d_R_moves_60 ?_
      refine lv_iload_n (pc := 63) hx hb d_R_moves_63 rfl (lv_at hl 0 rfl) ?_
      refine lv_iadd (pc := 64) hx hb d_R_moves_64 ?_
      refine lv_ldc (pc := 65) (v := 32768) hx hb fx.2.2.2.1 (fx.2.2.2.2 _ kw_1066) d_R_moves_65 ?_
      refine lv_icmp_le (pc := 67) (tgt := 80) hx hb d_R_moves_67 (by decide) (fun c9 => ?_) (fun c9 => ?_)
      · replace h := h.1 c9
        exact c_R_moves_80 hX fx HR h hw (lv_sub hl [1, 2, 0] rfl)
      · replace h := h.2 c9
        refine lv_aload_n (pc := 70) hx hb d_R_moves_70 rfl (lv_at hl 1 rfl) ?_
        refine lv_bipush (pc := 71) (v := 7) hx hb d_R_moves_71 (by decide) ?_
        refine cxI (pc := 73) hX fx hw (c_R_stop hX h) cw_R_191 (rcR_0 hw) rfl ⟨Nat.le_of_ble_eq_true rfl, Nat.le_of_ble_eq_true rfl⟩ hl.1 (Nat.le_of_ble_eq_true rfl) d_R_moves_73 ⟨Nat.zero_le _, Nat.zero_le _⟩ (fun r_5 σ_4 H locs hw h => ?_)
        have zr_5 := h.1
        replace h := h.2
        refine lv_pop (pc := 76) hx hb d_R_moves_76 rfl ?_
        refine lv_goto (pc := 77) (tgt := 98) hx hb d_R_moves_77 (by decide) ?_
        exact HR d_R_moves_98 h hw
  · replace h := h.2 c9
    exact HR d_R_moves_54 h hw
set_option maxHeartbeats 4000000 in
set_option maxRecDepth 100000 in
theorem c_R_moves_13 (hX : XT X) (fx : CallFix p m c b_R_moves 3 s args GW RNR) {post : SS → Prop} (HR : RetV p l e r_R_moves s m args below meth c Q D vcl (tyl cA) (wR cA a) X A b_R_moves post) {σ : SS} {s0 : Int32} {H : Heap} {locs : List Loc} {ls : Array Slot} (h : f_R_moves_13 post σ s0) (hw : CX D vcl (tyl cA) (wR cA a σ) X A s H locs) (hl : lv_has ls 3 [(0, .ref (a 0))]) : W p l e r_R_moves s m args below meth c H locs 0 0 Q (F0 m 13 ls [.int s0]) := by
  have hx := fx.1
  have hb := fx.2.1
  unfold f_R_moves_13 at h
  refine lv_istore_n (pc := 13) (lv' := [(1, .int s0), (0, .ref (a 0))]) hx hb d_R_moves_13 rfl hl (by decide) rfl (fun ls hl => ?_)
  refine lv_aload_n (pc := 14) hx hb d_R_moves_14 rfl (lv_at hl 1 rfl) ?_
  refine lv_iconst (pc := 15) (v := 0) hx hb d_R_moves_15 (by decide) ?_
  refine pR_0_askedCount (pc := 16) fx hw kw_1109 d_R_moves_16 (fun σ_6 e9 H locs hw => ?_)
  replace h := nm_u h e9
  clear e9
  refine lv_aload_n (pc := 19) hx hb d_R_moves_19 rfl (lv_at hl 1 rfl) ?_
  refine lv_iconst (pc := 20) (v := 0) hx hb d_R_moves_20 (by decide) ?_
  refine pR_0_outside (pc := 21) fx hw kw_1110 bz_0 d_R_moves_21 (fun σ_7 e9 H locs hw => ?_)
  replace h := nm_u h e9
  clear e9
  refine lv_iload_n (pc := 24) hx hb d_R_moves_24 rfl (lv_at hl 0 rfl) ?_
  refine lv_if_eq (pc := 25) (tgt := 38) hx hb d_R_moves_25 (by decide) (fun c9 => ?_) (fun c9 => ?_)
  · replace h := h.1 c9
    refine lv_aload_n (pc := 38) hx hb d_R_moves_38 rfl (lv_at hl 1 rfl) ?_
    refine cxI (pc := 39) hX fx hw (c_R_expression hX h) cw_R_358 (rcR_0 hw) rfl ⟨Nat.le_of_ble_eq_true rfl, Nat.le_of_ble_eq_true rfl⟩ hl.1 (Nat.le_of_ble_eq_true rfl) d_R_moves_39 ⟨Nat.zero_le _, Nat.zero_le _⟩ (fun r_9 σ_8 H locs hw h => ?_)
    exact c_R_moves_42 hX fx HR h hw (lv_sub hl [1, 0] rfl)
  · replace h := h.2 c9
    refine lv_aload_n (pc := 28) hx hb d_R_moves_28 rfl (lv_at hl 1 rfl) ?_
    refine lv_sipush (pc := 29) (v := 32767) hx hb d_R_moves_29 (by decide) ?_
    refine cxI (pc := 32) hX fx hw (c_R_bounded hX h) cw_R_364 (rcR_0 hw) rfl ⟨Nat.le_of_ble_eq_true rfl, Nat.le_of_ble_eq_true rfl⟩ hl.1 (Nat.le_of_ble_eq_true rfl) d_R_moves_32 ⟨Nat.zero_le _, Nat.zero_le _⟩ (fun r_11 σ_10 H locs hw h => ?_)
    refine lv_goto (pc := 35) (tgt := 42) hx hb d_R_moves_35 (by decide) ?_
    exact c_R_moves_42 hX fx HR h hw (lv_sub hl [1, 0] rfl)
set_option maxHeartbeats 4000000 in
set_option maxRecDepth 100000 in
theorem e_R_moves (hX : XT X) (fx : CallFix p m c b_R_moves 3 s args GW RNR) {post : SS → Prop} (HR : RetV p l e r_R_moves s m args below meth c Q D vcl (tyl cA) (wR cA a) X A b_R_moves post) {σ : SS} {H : Heap} {locs : List Loc} {ls : Array Slot} (h : f_R_moves post σ) (hw : CX D vcl (tyl cA) (wR cA a σ) X A s H locs) (hl : lv_has ls 3 [(0, .ref (a 0))]) : W p l e r_R_moves s m args below meth c H locs 0 0 Q (F0 m 0 ls []) := by
  have hx := fx.1
  have hb := fx.2.1
  unfold f_R_moves at h
  refine lv_aload_n (pc := 0) hx hb d_R_moves_0 rfl (lv_at hl 0 rfl) ?_
  refine gR_0_sort (pc := 1) fx hw kw_1111 d_R_moves_1 ?_
  refine lv_iconst (pc := 4) (v := 1) hx hb d_R_moves_4 (by decide) ?_
  refine lv_icmp_ne (pc := 5) (tgt := 12) hx hb d_R_moves_5 (by decide) (fun c9 => ?_) (fun c9 => ?_)
  · replace h := h.2 c9
    refine lv_iconst (pc := 12) (v := 0) hx hb d_R_moves_12 (by decide) ?_
    exact c_R_moves_13 hX fx HR h hw (lv_sub hl [0] rfl)
  · replace h := h.1 c9
    refine lv_iconst (pc := 8) (v := 1) hx hb d_R_moves_8 (by decide) ?_
    refine lv_goto (pc := 9) (tgt := 13) hx hb d_R_moves_9 (by decide) ?_
    exact c_R_moves_13 hX fx HR h hw (lv_sub hl [0] rfl)
end
theorem c_R_moves {l : Launch} {D : va_G} {cA : Nat → ClassId} {a : Nat → Nat} {X : (Nat → Prop) → State → Prop} (hX : XT X) {σ : SS} {post : SS → Prop} (h : f_R_moves post σ) : mV l y_R_moves b_R_moves 3 none 6 143 D vcl (tyl cA) (wR cA a) X σ [.ref (a 0)] post := met_V (by decide) (Nat.le_of_ble_eq_true rfl) (fun p e s m args below meth c A Q fx HR H ls hw hl => e_R_moves hX fx HR h hw hl)
abbrev r_R_goOn : Room := { frames := 1, cells := 0, slots := 0, locals := 21 }
def f_R_goOn_16 (post : SS → Prop) (σ : SS) : Prop := nm (sI σ 19 ((σ.1 19) + 1)) fun σ_1 => post σ_1
def f_R_goOn (post : SS → Prop) (σ : SS) : Prop := br ((σ.1 19) < 32768) (f_R_goOn_16 post σ) (f_R_stop (fun r_3 σ_2 => f_R_goOn_16 post σ_2) σ 7)
section
variable {p : Program} {l : Launch} {e : Env} {s : State} {m : MethodId} {args : Array Value} {below : List Frame} {meth : Method} {c : Code} {Q : State → Prop} {D : va_G} {cA : Nat → ClassId} {a : Nat → Nat} {X : (Nat → Prop) → State → Prop} {A : Nat → Prop}
set_option maxHeartbeats 4000000 in
set_option maxRecDepth 100000 in
theorem c_R_goOn_16 (hX : XT X) (fx : CallFix p m c b_R_goOn 1 s args GW RNR) {post : SS → Prop} (HR : RetV p l e r_R_goOn s m args below meth c Q D vcl (tyl cA) (wR cA a) X A b_R_goOn post) {σ : SS} {H : Heap} {locs : List Loc} {ls : Array Slot} (h : f_R_goOn_16 post σ) (hw : CX D vcl (tyl cA) (wR cA a σ) X A s H locs) (hl : lv_has ls 1 [(0, .ref (a 0))]) : W p l e r_R_goOn s m args below meth c H locs 0 0 Q (F0 m 16 ls []) := by
  have hx := fx.1
  have hb := fx.2.1
  unfold f_R_goOn_16 at h
  refine lv_aload_n (pc := 16) hx hb d_R_goOn_16 rfl (lv_at hl 0 rfl) ?_
  refine lv_dup (pc := 17) hx hb d_R_goOn_17 rfl ?_
  refine gR_0_here (pc := 18) fx hw kw_1101 d_R_goOn_18 ?_
  refine lv_iconst (pc := 21) (v := 1) hx hb d_R_goOn_21 (by decide) ?_
  refine lv_iadd (pc := 22) hx hb d_R_goOn_22 ?_
  refine pR_0_here (pc := 23) fx hw kw_1101 d_R_goOn_23 (fun σ_1 e9 H locs hw => ?_)
  replace h := nm_u h e9
  clear e9
  exact HR d_R_goOn_26 h hw
set_option maxHeartbeats 4000000 in
set_option maxRecDepth 100000 in
theorem e_R_goOn (hX : XT X) (fx : CallFix p m c b_R_goOn 1 s args GW RNR) {post : SS → Prop} (HR : RetV p l e r_R_goOn s m args below meth c Q D vcl (tyl cA) (wR cA a) X A b_R_goOn post) {σ : SS} {H : Heap} {locs : List Loc} {ls : Array Slot} (h : f_R_goOn post σ) (hw : CX D vcl (tyl cA) (wR cA a σ) X A s H locs) (hl : lv_has ls 1 [(0, .ref (a 0))]) : W p l e r_R_goOn s m args below meth c H locs 0 0 Q (F0 m 0 ls []) := by
  have hx := fx.1
  have hb := fx.2.1
  unfold f_R_goOn at h
  refine lv_aload_n (pc := 0) hx hb d_R_goOn_0 rfl (lv_at hl 0 rfl) ?_
  refine gR_0_here (pc := 1) fx hw kw_1101 d_R_goOn_1 ?_
  refine lv_ldc (pc := 4) (v := 32768) hx hb fx.2.2.2.1 (fx.2.2.2.2 _ kw_1066) d_R_goOn_4 ?_
  refine lv_icmp_lt (pc := 6) (tgt := 16) hx hb d_R_goOn_6 (by decide) (fun c9 => ?_) (fun c9 => ?_)
  · replace h := h.1 c9
    exact c_R_goOn_16 hX fx HR h hw (lv_sub hl [0] rfl)
  · replace h := h.2 c9
    refine lv_aload_n (pc := 9) hx hb d_R_goOn_9 rfl (lv_at hl 0 rfl) ?_
    refine lv_bipush (pc := 10) (v := 7) hx hb d_R_goOn_10 (by decide) ?_
    refine cxI (pc := 12) hX fx hw (c_R_stop hX h) cw_R_191 (rcR_0 hw) rfl ⟨Nat.le_of_ble_eq_true rfl, Nat.le_of_ble_eq_true rfl⟩ hl.1 (Nat.le_of_ble_eq_true rfl) d_R_goOn_12 ⟨Nat.zero_le _, Nat.zero_le _⟩ (fun r_3 σ_2 H locs hw h => ?_)
    have zr_3 := h.1
    replace h := h.2
    refine lv_pop (pc := 15) hx hb d_R_goOn_15 rfl ?_
    exact c_R_goOn_16 hX fx HR h hw (lv_sub hl [0] rfl)
end
theorem c_R_goOn {l : Launch} {D : va_G} {cA : Nat → ClassId} {a : Nat → Nat} {X : (Nat → Prop) → State → Prop} (hX : XT X) {σ : SS} {post : SS → Prop} (h : f_R_goOn post σ) : mV l y_R_goOn b_R_goOn 1 none 1 21 D vcl (tyl cA) (wR cA a) X σ [.ref (a 0)] post := met_V (by decide) (Nat.le_of_ble_eq_true rfl) (fun p e s m args below meth c A Q fx HR H ls hw hl => e_R_goOn hX fx HR h hw hl)
abbrev r_R_keep : Room := { frames := 2, cells := 0, slots := 0, locals := 42 }
def f_R_keep (post : SS → Prop) (σ : SS) (x1 : Int32) : Prop := f_R_finish (fun σ_1 => br ((σ_1.1 13) = 0) (vp_in (σ_1.1 18) 6000 ∧ nm (sA σ_1 14 (σ_1.1 18).toNatClampNeg (σ_1.1 19)) fun σ_3 => vp_in (σ_3.1 18) 6000 ∧ nm (sA σ_3 15 (σ_3.1 18).toNatClampNeg x1) fun σ_4 => nm (sI σ_4 18 ((σ_4.1 18) + 1)) fun σ_5 => nm (sI σ_5 19 ((σ_5.1 19) + 1)) fun σ_6 => post σ_6) (post σ_1)) σ
section
variable {p : Program} {l : Launch} {e : Env} {s : State} {m : MethodId} {args : Array Value} {below : List Frame} {meth : Method} {c : Code} {Q : State → Prop} {D : va_G} {cA : Nat → ClassId} {a : Nat → Nat} {X : (Nat → Prop) → State → Prop} {A : Nat → Prop}
set_option maxHeartbeats 4000000 in
set_option maxRecDepth 100000 in
theorem e_R_keep (hX : XT X) (fx : CallFix p m c b_R_keep 2 s args GW RNR) {post : SS → Prop} (HR : RetV p l e r_R_keep s m args below meth c Q D vcl (tyl cA) (wR cA a) X A b_R_keep post) {σ : SS} {x1 : Int32} {H : Heap} {locs : List Loc} {ls : Array Slot} (h : f_R_keep post σ x1) (hw : CX D vcl (tyl cA) (wR cA a σ) X A s H locs) (hl : lv_has ls 2 [(0, .ref (a 0)), (1, .int x1)]) : W p l e r_R_keep s m args below meth c H locs 0 0 Q (F0 m 0 ls []) := by
  have hx := fx.1
  have hb := fx.2.1
  unfold f_R_keep at h
  refine lv_aload_n (pc := 0) hx hb d_R_keep_0 rfl (lv_at hl 0 rfl) ?_
  refine cxU (pc := 1) hX fx hw (c_R_finish hX h) cw_R_380 (rcR_0 hw) rfl ⟨Nat.le_of_ble_eq_true rfl, Nat.le_of_ble_eq_true rfl⟩ hl.1 (Nat.le_of_ble_eq_true rfl) d_R_keep_1 ⟨Nat.zero_le _, Nat.zero_le _⟩ (fun σ_1 H locs hw h => ?_)
  refine lv_aload_n (pc := 4) hx hb d_R_keep_4 rfl (lv_at hl 0 rfl) ?_
  refine gR_0_fault (pc := 5) fx hw kw_1089 d_R_keep_5 ?_
  refine lv_if_eq (pc := 8) (tgt := 12) hx hb d_R_keep_8 (by decide) (fun c9 => ?_) (fun c9 => ?_)
  · replace h := h.1 c9
    refine lv_aload_n (pc := 12) hx hb d_R_keep_12 rfl (lv_at hl 0 rfl) ?_
    refine gR_0_targets (pc := 13) fx hw kw_1098 d_R_keep_13 ?_
    refine lv_aload_n (pc := 16) hx hb d_R_keep_16 rfl (lv_at hl 0 rfl) ?_
    refine gR_0_madeCount (pc := 17) fx hw kw_1100 d_R_keep_17 ?_
    refine lv_aload_n (pc := 20) hx hb d_R_keep_20 rfl (lv_at hl 0 rfl) ?_
    refine gR_0_here (pc := 21) fx hw kw_1101 d_R_keep_21 ?_
    refine asR_14 (pc := 24) fx hw h.1 d_R_keep_24 (fun σ_3 e9 H locs hw => ?_)
    replace h := nm_u h.2 e9
    clear e9
    refine lv_aload_n (pc := 25) hx hb d_R_keep_25 rfl (lv_at hl 0 rfl) ?_
    refine gR_0_made (pc := 26) fx hw kw_1099 d_R_keep_26 ?_
    refine lv_aload_n (pc := 29) hx hb d_R_keep_29 rfl (lv_at hl 0 rfl) ?_
    refine gR_0_madeCount (pc := 30) fx hw kw_1100 d_R_keep_30 ?_
    refine lv_iload_n (pc := 33) hx hb d_R_keep_33 rfl (lv_at hl 1 rfl) ?_
    refine asR_15 (pc := 34) fx hw h.1 d_R_keep_34 (fun σ_4 e9 H locs hw => ?_)
    replace h := nm_u h.2 e9
    clear e9
    refine lv_aload_n (pc := 35) hx hb d_R_keep_35 rfl (lv_at hl 0 rfl) ?_
    refine lv_dup (pc := 36) hx hb d_R_keep_36 rfl ?_
    refine gR_0_madeCount (pc := 37) fx hw kw_1100 d_R_keep_37 ?_
    refine lv_iconst (pc := 40) (v := 1) hx hb d_R_keep_40 (by decide) ?_
    refine lv_iadd (pc := 41) hx hb d_R_keep_41 ?_
    refine pR_0_madeCount (pc := 42) fx hw kw_1100 d_R_keep_42 (fun σ_5 e9 H locs hw => ?_)
    replace h := nm_u h e9
    clear e9
    refine lv_aload_n (pc := 45) hx hb d_R_keep_45 rfl (lv_at hl 0 rfl) ?_
    refine lv_dup (pc := 46) hx hb d_R_keep_46 rfl ?_
    refine gR_0_here (pc := 47) fx hw kw_1101 d_R_keep_47 ?_
    refine lv_iconst (pc := 50) (v := 1) hx hb d_R_keep_50 (by decide) ?_
    refine lv_iadd (pc := 51) hx hb d_R_keep_51 ?_
    refine pR_0_here (pc := 52) fx hw kw_1101 d_R_keep_52 (fun σ_6 e9 H locs hw => ?_)
    replace h := nm_u h e9
    clear e9
    exact HR d_R_keep_55 h hw
  · replace h := h.2 c9
    exact HR d_R_keep_11 h hw
end
theorem c_R_keep {l : Launch} {D : va_G} {cA : Nat → ClassId} {a : Nat → Nat} {X : (Nat → Prop) → State → Prop} (hX : XT X) {σ : SS} {post : SS → Prop} {x1 : Int32} (h : f_R_keep post σ x1) : mV l y_R_keep b_R_keep 2 none 2 42 D vcl (tyl cA) (wR cA a) X σ [.ref (a 0), .int x1] post := met_V (by decide) (Nat.le_of_ble_eq_true rfl) (fun p e s m args below meth c A Q fx HR H ls hw hl => e_R_keep hX fx HR h hw hl)
abbrev r_R_begin : Room := { frames := 8, cells := 0, slots := 0, locals := 188 }
def f_R_begin_21 (post : SS → Prop) (σ : SS) : Prop := f_R_moves (fun σ_1 => post σ_1) σ
def f_R_begin (post : SS → Prop) (σ : SS) (x1 : Int64) (x3 : Int32) (x4 : Int32) : Prop := f_R_classify (fun σ_3 => br ((σ_3.1 26) = 1) (f_R_begin_21 post σ_3) (br ((σ_3.1 26) = 2) (f_R_begin_21 post σ_3) (br (x4 = 0) (nm (sI σ_3 24 0) fun σ_5 => nm (sI σ_5 25 0) fun σ_6 => br ((σ_6.1 26) ≤ 0) (nm (sI σ_6 20 x3) fun σ_7 => nm (sI σ_7 22 1) fun σ_8 => nm (sL σ_8 0 x1) fun σ_9 => f_R_expression (fun r_11 σ_10 => f_R_keep (fun σ_12 => post σ_12) σ_10 r_11) σ_9) (f_R_statement (fun r_15 σ_14 => f_R_keep (fun σ_16 => post σ_16) σ_14 r_15) σ_6)) (f_R_goOn (fun σ_18 => post σ_18) σ_3)))) σ x1
section
variable {p : Program} {l : Launch} {e : Env} {s : State} {m : MethodId} {args : Array Value} {below : List Frame} {meth : Method} {c : Code} {Q : State → Prop} {D : va_G} {cA : Nat → ClassId} {a : Nat → Nat} {X : (Nat → Prop) → State → Prop} {A : Nat → Prop}
set_option maxHeartbeats 4000000 in
set_option maxRecDepth 100000 in
theorem c_R_begin_21 (hX : XT X) (fx : CallFix p m c b_R_begin 5 s args GW RNR) {post : SS → Prop} (HR : RetV p l e r_R_begin s m args below meth c Q D vcl (tyl cA) (wR cA a) X A b_R_begin post) {σ : SS} {H : Heap} {locs : List Loc} {ls : Array Slot} (h : f_R_begin_21 post σ) (hw : CX D vcl (tyl cA) (wR cA a σ) X A s H locs) (hl : lv_has ls 5 [(0, .ref (a 0))]) : W p l e r_R_begin s m args below meth c H locs 0 0 Q (F0 m 21 ls []) := by
  have hx := fx.1
  have hb := fx.2.1
  unfold f_R_begin_21 at h
  refine lv_aload_n (pc := 21) hx hb d_R_begin_21 rfl (lv_at hl 0 rfl) ?_
  refine cxU (pc := 22) hX fx hw (c_R_moves hX h) cw_R_397 (rcR_0 hw) rfl ⟨Nat.le_of_ble_eq_true rfl, Nat.le_of_ble_eq_true rfl⟩ hl.1 (Nat.le_of_ble_eq_true rfl) d_R_begin_22 ⟨Nat.zero_le _, Nat.zero_le _⟩ (fun σ_1 H locs hw h => ?_)
  exact HR d_R_begin_25 h hw
set_option maxHeartbeats 4000000 in
set_option maxRecDepth 100000 in
theorem e_R_begin (hX : XT X) (fx : CallFix p m c b_R_begin 5 s args GW RNR) {post : SS → Prop} (HR : RetV p l e r_R_begin s m args below meth c Q D vcl (tyl cA) (wR cA a) X A b_R_begin post) {σ : SS} {x1 : Int64} {x3 : Int32} {x4 : Int32} {H : Heap} {locs : List Loc} {ls : Array Slot} (h : f_R_begin post σ x1 x3 x4) (hw : CX D vcl (tyl cA) (wR cA a σ) X A s H locs) (hl : lv_has ls 5 [(0, .ref (a 0)), (1, .long x1), (3, .int x3), (4, .int x4)]) : W p l e r_R_begin s m args below meth c H locs 0 0 Q (F0 m 0 ls []) := by
  have hx := fx.1
  have hb := fx.2.1
  unfold f_R_begin at h
  refine lv_aload_n (pc := 0) hx hb d_R_begin_0 rfl (lv_at hl 0 rfl) ?_
  refine lv_lload_n (pc := 1) hx hb d_R_begin_1 rfl (lv_at hl 1 rfl) ?_
  refine cxU (pc := 2) hX fx hw (c_R_classify hX h) cw_R_377 (rcR_0 hw) rfl ⟨Nat.le_of_ble_eq_true rfl, Nat.le_of_ble_eq_true rfl⟩ hl.1 (Nat.le_of_ble_eq_true rfl) d_R_begin_2 ⟨Nat.zero_le _, Nat.zero_le _⟩ (fun σ_3 H locs hw h => ?_)
  refine lv_aload_n (pc := 5) hx hb d_R_begin_5 rfl (lv_at hl 0 rfl) ?_
  refine gR_0_sort (pc := 6) fx hw kw_1111 d_R_begin_6 ?_
  refine lv_iconst (pc := 9) (v := 1) hx hb d_R_begin_9 (by decide) ?_
  refine lv_icmp_eq (pc := 10) (tgt := 21) hx hb d_R_begin_10 (by decide) (fun c9 => ?_) (fun c9 => ?_)
  · replace h := h.1 c9
    exact c_R_begin_21 hX fx HR h hw (lv_sub hl [0] rfl)
  · replace h := h.2 c9
    refine lv_aload_n (pc := 13) hx hb d_R_begin_13 rfl (lv_at hl 0 rfl) ?_
    refine gR_0_sort (pc := 14) fx hw kw_1111 d_R_begin_14 ?_
    refine lv_iconst (pc := 17) (v := 2) hx hb d_R_begin_17 (by decide) ?_
    refine lv_icmp_ne (pc := 18) (tgt := 26) hx hb d_R_begin_18 (by decide) (fun c9 => ?_) (fun c9 => ?_)
    · replace h := h.2 c9
      refine lv_iload (pc := 26) hx hb d_R_begin_26 (lv_at hl 3 rfl) ?_
      refine lv_if_eq (pc := 28) (tgt := 36) hx hb d_R_begin_28 (by decide) (fun c9 => ?_) (fun c9 => ?_)
      · replace h := h.1 c9
        refine lv_aload_n (pc := 36) hx hb d_R_begin_36 rfl (lv_at hl 0 rfl) ?_
        refine lv_iconst (pc := 37) (v := 0) hx hb d_R_begin_37 (by decide) ?_
        refine pR_0_askedCount (pc := 38) fx hw kw_1109 d_R_begin_38 (fun σ_5 e9 H locs hw => ?_)
        replace h := nm_u h e9
        clear e9
        refine lv_aload_n (pc := 41) hx hb d_R_begin_41 rfl (lv_at hl 0 rfl) ?_
        refine lv_iconst (pc := 42) (v := 0) hx hb d_R_begin_42 (by decide) ?_
        refine pR_0_outside (pc := 43) fx hw kw_1110 bz_0 d_R_begin_43 (fun σ_6 e9 H locs hw => ?_)
        replace h := nm_u h e9
        clear e9
        refine lv_aload_n (pc := 46) hx hb d_R_begin_46 rfl (lv_at hl 0 rfl) ?_
        refine gR_0_sort (pc := 47) fx hw kw_1111 d_R_begin_47 ?_
        refine lv_if_le (pc := 50) (tgt := 62) hx hb d_R_begin_50 (by decide) (fun c9 => ?_) (fun c9 => ?_)
        · replace h := h.1 c9
          refine lv_aload_n (pc := 62) hx hb d_R_begin_62 rfl (lv_at hl 0 rfl) ?_
          refine lv_iload_n (pc := 63) hx hb d_R_begin_63 rfl (lv_at hl 2 rfl) ?_
          refine pR_0_at (pc := 64) fx hw kw_1102 d_R_begin_64 (fun σ_7 e9 H locs hw => ?_)
          replace h := nm_u h e9
          clear e9
          refine lv_aload_n (pc := 67) hx hb d_R_begin_67 rfl (lv_at hl 0 rfl) ?_
          refine lv_iconst (pc := 68) (v := 1) hx hb d_R_begin_68 (by decide) ?_
          refine pR_0_kind (pc := 69) fx hw kw_1104 d_R_begin_69 (fun σ_8 e9 H locs hw => ?_)
          replace h := nm_u h e9
          clear e9
          refine lv_aload_n (pc := 72) hx hb d_R_begin_72 rfl (lv_at hl 0 rfl) ?_
          refine lv_lload_n (pc := 73) hx hb d_R_begin_73 rfl (lv_at hl 1 rfl) ?_
          refine pR_0_name (pc := 74) fx hw kw_1106 d_R_begin_74 (fun σ_9 e9 H locs hw => ?_)
          replace h := nm_u h e9
          clear e9
          refine lv_aload_n (pc := 77) hx hb d_R_begin_77 rfl (lv_at hl 0 rfl) ?_
          refine lv_aload_n (pc := 78) hx hb d_R_begin_78 rfl (lv_at hl 0 rfl) ?_
          refine cxI (pc := 79) hX fx hw (c_R_expression hX h) cw_R_358 (rcR_0 hw) rfl ⟨Nat.le_of_ble_eq_true rfl, Nat.le_of_ble_eq_true rfl⟩ hl.1 (Nat.le_of_ble_eq_true rfl) d_R_begin_79 ⟨Nat.zero_le _, Nat.zero_le _⟩ (fun r_11 σ_10 H locs hw h => ?_)
          refine cxU (pc := 82) hX fx hw (c_R_keep hX h) cw_R_390 (rcR_0 hw) rfl ⟨Nat.le_of_ble_eq_true rfl, Nat.le_of_ble_eq_true rfl⟩ hl.1 (Nat.le_of_ble_eq_true rfl) d_R_begin_82 ⟨Nat.zero_le _, Nat.zero_le _⟩ (fun σ_12 H locs hw h => ?_)
          exact HR d_R_begin_85 h hw
        · replace h := h.2 c9
          refine lv_aload_n (pc := 53) hx hb d_R_begin_53 rfl (lv_at hl 0 rfl) ?_
          refine lv_aload_n (pc := 54) hx hb d_R_begin_54 rfl (lv_at hl 0 rfl) ?_
          refine cxI (pc := 55) hX fx hw (c_R_statement hX h) cw_R_400 (rcR_0 hw) rfl ⟨Nat.le_of_ble_eq_true rfl, Nat.le_of_ble_eq_true rfl⟩ hl.1 (Nat.le_of_ble_eq_true rfl) d_R_begin_55 ⟨Nat.zero_le _, Nat.zero_le _⟩ (fun r_15 σ_14 H locs hw h => ?_)
          refine cxU (pc := 58) hX fx hw (c_R_keep hX h) cw_R_390 (rcR_0 hw) rfl ⟨Nat.le_of_ble_eq_true rfl, Nat.le_of_ble_eq_true rfl⟩ hl.1 (Nat.le_of_ble_eq_true rfl) d_R_begin_58 ⟨Nat.zero_le _, Nat.zero_le _⟩ (fun σ_16 H locs hw h => ?_)
          exact HR d_R_begin_61 h hw
      · replace h := h.2 c9
        refine lv_aload_n (pc := 31) hx hb d_R_begin_31 rfl (lv_at hl 0 rfl) ?_
        refine cxU (pc := 32) hX fx hw (c_R_goOn hX h) cw_R_394 (rcR_0 hw) rfl ⟨Nat.le_of_ble_eq_true rfl, Nat.le_of_ble_eq_true rfl⟩ hl.1 (Nat.le_of_ble_eq_true rfl) d_R_begin_32 ⟨Nat.zero_le _, Nat.zero_le _⟩ (fun σ_18 H locs hw h => ?_)
        exact HR d_R_begin_35 h hw
    · replace h := h.1 c9
      exact c_R_begin_21 hX fx HR h hw (lv_sub hl [0] rfl)
end
theorem c_R_begin {l : Launch} {D : va_G} {cA : Nat → ClassId} {a : Nat → Nat} {X : (Nat → Prop) → State → Prop} (hX : XT X) {σ : SS} {post : SS → Prop} {x1 : Int64} {x3 : Int32} {x4 : Int32} (h : f_R_begin post σ x1 x3 x4) : mV l y_R_begin b_R_begin 5 none 8 188 D vcl (tyl cA) (wR cA a) X σ [.ref (a 0), .long x1, .int x3, .int x4] post := met_V (by decide) (Nat.le_of_ble_eq_true rfl) (fun p e s m args below meth c A Q fx HR H ls hw hl => e_R_begin hX fx HR h hw hl)
abbrev r_R_goThrough : Room := { frames := 9, cells := 0, slots := 0, locals := 212 }
def f_R_goThrough_149 (post : SS → Prop) (σ : SS) (x1 : Int32) : Prop := br (x1 = 0) (post σ) (f_R_goOn (fun σ_1 => post σ_1) σ)
def f_R_goThrough_127 (post : SS → Prop) (σ : SS) (x1 : Int32) : Prop := br (x1 = 0) (nm (sI σ 24 0) fun σ_3 => nm (sI σ_3 25 0) fun σ_4 => f_R_expression (fun r_6 σ_5 => f_R_keep (fun σ_7 => f_R_goThrough_149 post σ_7 x1) σ_5 r_6) σ_4) (f_R_goThrough_149 post σ x1)
def f_R_goThrough_79 (post : SS → Prop) (σ : SS) (x1 : Int32) : Prop := br ((σ.1 13) = 0) (br ((σ.1 22) = 0) (post σ) (br ((σ.1 22) = 3) (br ((σ.1 23) = 43) (f_R_goThrough_127 post σ x1) (br ((σ.1 23) = 45) (f_R_goThrough_127 post σ x1) (f_R_stop (fun r_10 σ_9 => post σ_9) σ 2))) (f_R_goThrough_127 post σ x1))) (post σ)
def f_R_goThrough_71 (post : SS → Prop) (k5 : SS → Int32 → Prop) (σ : SS) (x1 : Int32) : Prop := f_R_next (fun r_12 σ_11 => k5 σ_11 x1) σ
def f_R_goThrough_5 (post : SS → Prop) : Nat → SS → Int32 → Prop
  | 0, _, _ => False
  | n + 1, σ, x1 => br ((σ.1 13) = 0) (br ((σ.1 22) = 1) (nm (σ.2.2.1 0) fun x2_13 => nm (σ.1 20) fun x4_14 => f_R_next (fun r_16 σ_15 => br ((σ_15.1 13) = 0) (f_R_isSign (fun r_18 σ_17 => br (r_18 = 0) (f_R_begin (fun σ_21 => post σ_21) σ_17 x2_13 x4_14 x1) (br (x1 = 0) (f_R_goThrough_71 post (f_R_goThrough_5 post n) σ_17 x1) (f_R_addLabel (fun σ_19 => f_R_goThrough_71 post (f_R_goThrough_5 post n) σ_19 x1) σ_17 x2_13))) σ_15 58) (post σ_15)) σ) (f_R_goThrough_79 post σ x1)) (f_R_goThrough_79 post σ x1)
def f_R_goThrough (post : SS → Prop) (σ : SS) (x1 : Int32) : Prop := f_R_next (fun r_24 σ_23 => ∃ n9, f_R_goThrough_5 post n9 σ_23 x1) σ
section
variable {p : Program} {l : Launch} {e : Env} {s : State} {m : MethodId} {args : Array Value} {below : List Frame} {meth : Method} {c : Code} {Q : State → Prop} {D : va_G} {cA : Nat → ClassId} {a : Nat → Nat} {X : (Nat → Prop) → State → Prop} {A : Nat → Prop}
set_option maxHeartbeats 4000000 in
set_option maxRecDepth 100000 in
theorem c_R_goThrough_149 (hX : XT X) (fx : CallFix p m c b_R_goThrough 5 s args GW RNR) {post : SS → Prop} (HR : RetV p l e r_R_goThrough s m args below meth c Q D vcl (tyl cA) (wR cA a) X A b_R_goThrough post) {σ : SS} {x1 : Int32} {H : Heap} {locs : List Loc} {ls : Array Slot} (h : f_R_goThrough_149 post σ x1) (hw : CX D vcl (tyl cA) (wR cA a σ) X A s H locs) (hl : lv_has ls 5 [(0, .ref (a 0)), (1, .int x1)]) : W p l e r_R_goThrough s m args below meth c H locs 0 0 Q (F0 m 149 ls []) := by
  have hx := fx.1
  have hb := fx.2.1
  unfold f_R_goThrough_149 at h
  refine lv_iload_n (pc := 149) hx hb d_R_goThrough_149 rfl (lv_at hl 1 rfl) ?_
  refine lv_if_eq (pc := 150) (tgt := 157) hx hb d_R_goThrough_150 (by decide) (fun c9 => ?_) (fun c9 => ?_)
  · replace h := h.1 c9
    exact HR d_R_goThrough_157 h hw
  · replace h := h.2 c9
    refine lv_aload_n (pc := 153) hx hb d_R_goThrough_153 rfl (lv_at hl 0 rfl) ?_
    refine cxU (pc := 154) hX fx hw (c_R_goOn hX h) cw_R_394 (rcR_0 hw) rfl ⟨Nat.le_of_ble_eq_true rfl, Nat.le_of_ble_eq_true rfl⟩ hl.1 (Nat.le_of_ble_eq_true rfl) d_R_goThrough_154 ⟨Nat.zero_le _, Nat.zero_le _⟩ (fun σ_1 H locs hw h => ?_)
    exact HR d_R_goThrough_157 h hw
set_option maxHeartbeats 4000000 in
set_option maxRecDepth 100000 in
theorem c_R_goThrough_127 (hX : XT X) (fx : CallFix p m c b_R_goThrough 5 s args GW RNR) {post : SS → Prop} (HR : RetV p l e r_R_goThrough s m args below meth c Q D vcl (tyl cA) (wR cA a) X A b_R_goThrough post) {σ : SS} {x1 : Int32} {H : Heap} {locs : List Loc} {ls : Array Slot} (h : f_R_goThrough_127 post σ x1) (hw : CX D vcl (tyl cA) (wR cA a σ) X A s H locs) (hl : lv_has ls 5 [(0, .ref (a 0)), (1, .int x1)]) : W p l e r_R_goThrough s m args below meth c H locs 0 0 Q (F0 m 127 ls []) := by
  have hx := fx.1
  have hb := fx.2.1
  unfold f_R_goThrough_127 at h
  refine lv_iload_n (pc := 127) hx hb d_R_goThrough_127 rfl (lv_at hl 1 rfl) ?_
  refine lv_if_ne (pc := 128) (tgt := 149) hx hb d_R_goThrough_128 (by decide) (fun c9 => ?_) (fun c9 => ?_)
  · replace h := h.2 c9
    exact c_R_goThrough_149 hX fx HR h hw (lv_sub hl [0, 1] rfl)
  · replace h := h.1 c9
    refine lv_aload_n (pc := 131) hx hb d_R_goThrough_131 rfl (lv_at hl 0 rfl) ?_
    refine lv_iconst (pc := 132) (v := 0) hx hb d_R_goThrough_132 (by decide) ?_
    refine pR_0_askedCount (pc := 133) fx hw kw_1109 d_R_goThrough_133 (fun σ_3 e9 H locs hw => ?_)
    replace h := nm_u h e9
    clear e9
    refine lv_aload_n (pc := 136) hx hb d_R_goThrough_136 rfl (lv_at hl 0 rfl) ?_
    refine lv_iconst (pc := 137) (v := 0) hx hb d_R_goThrough_137 (by decide) ?_
    refine pR_0_outside (pc := 138) fx hw kw_1110 bz_0 d_R_goThrough_138 (fun σ_4 e9 H locs hw => ?_)
    replace h := nm_u h e9
    clear e9
    refine lv_aload_n (pc := 141) hx hb d_R_goThrough_141 rfl (lv_at hl 0 rfl) ?_
    refine lv_aload_n (pc := 142) hx hb d_R_goThrough_142 rfl (lv_at hl 0 rfl) ?_
    refine cxI (pc := 143) hX fx hw (c_R_expression hX h) cw_R_358 (rcR_0 hw) rfl ⟨Nat.le_of_ble_eq_true rfl, Nat.le_of_ble_eq_true rfl⟩ hl.1 (Nat.le_of_ble_eq_true rfl) d_R_goThrough_143 ⟨Nat.zero_le _, Nat.zero_le _⟩ (fun r_6 σ_5 H locs hw h => ?_)
    refine cxU (pc := 146) hX fx hw (c_R_keep hX h) cw_R_390 (rcR_0 hw) rfl ⟨Nat.le_of_ble_eq_true rfl, Nat.le_of_ble_eq_true rfl⟩ hl.1 (Nat.le_of_ble_eq_true rfl) d_R_goThrough_146 ⟨Nat.zero_le _, Nat.zero_le _⟩ (fun σ_7 H locs hw h => ?_)
    exact c_R_goThrough_149 hX fx HR h hw (lv_sub hl [0, 1] rfl)
set_option maxHeartbeats 4000000 in
set_option maxRecDepth 100000 in
theorem c_R_goThrough_79 (hX : XT X) (fx : CallFix p m c b_R_goThrough 5 s args GW RNR) {post : SS → Prop} (HR : RetV p l e r_R_goThrough s m args below meth c Q D vcl (tyl cA) (wR cA a) X A b_R_goThrough post) {σ : SS} {x1 : Int32} {H : Heap} {locs : List Loc} {ls : Array Slot} (h : f_R_goThrough_79 post σ x1) (hw : CX D vcl (tyl cA) (wR cA a σ) X A s H locs) (hl : lv_has ls 5 [(0, .ref (a 0)), (1, .int x1)]) : W p l e r_R_goThrough s m args below meth c H locs 0 0 Q (F0 m 79 ls []) := by
  have hx := fx.1
  have hb := fx.2.1
  unfold f_R_goThrough_79 at h
  refine lv_aload_n (pc := 79) hx hb d_R_goThrough_79 rfl (lv_at hl 0 rfl) ?_
  refine gR_0_fault (pc := 80) fx hw kw_1089 d_R_goThrough_80 ?_
  refine lv_if_ne (pc := 83) (tgt := 93) hx hb d_R_goThrough_83 (by decide) (fun c9 => ?_) (fun c9 => ?_)
  · replace h := h.2 c9
    exact HR d_R_goThrough_93 h hw
  · replace h := h.1 c9
    refine lv_aload_n (pc := 86) hx hb d_R_goThrough_86 rfl (lv_at hl 0 rfl) ?_
    refine gR_0_kind (pc := 87) fx hw kw_1104 d_R_goThrough_87 ?_
    refine lv_if_ne (pc := 90) (tgt := 94) hx hb d_R_goThrough_90 (by decide) (fun c9 => ?_) (fun c9 => ?_)
    · replace h := h.2 c9
      refine lv_aload_n (pc := 94) hx hb d_R_goThrough_94 rfl (lv_at hl 0 rfl) ?_
      refine gR_0_kind (pc := 95) fx hw kw_1104 d_R_goThrough_95 ?_
      refine lv_iconst (pc := 98) (v := 3) hx hb d_R_goThrough_98 (by decide) ?_
      refine lv_icmp_ne (pc := 99) (tgt := 127) hx hb d_R_goThrough_99 (by decide) (fun c9 => ?_) (fun c9 => ?_)
      · replace h := h.2 c9
        exact c_R_goThrough_127 hX fx HR h hw (lv_sub hl [0, 1] rfl)
      · replace h := h.1 c9
        refine lv_aload_n (pc := 102) hx hb d_R_goThrough_102 rfl (lv_at hl 0 rfl) ?_
        refine gR_0_value (pc := 103) fx hw kw_1105 d_R_goThrough_103 ?_
        refine lv_bipush (pc := 106) (v := 43) hx hb d_R_goThrough_106 (by decide) ?_
        refine lv_icmp_eq (pc := 108) (tgt := 127) hx hb d_R_goThrough_108 (by decide) (fun c9 => ?_) (fun c9 => ?_)
        · replace h := h.1 c9
          exact c_R_goThrough_127 hX fx HR h hw (lv_sub hl [0, 1] rfl)
        · replace h := h.2 c9
          refine lv_aload_n (pc := 111) hx hb d_R_goThrough_111 rfl (lv_at hl 0 rfl) ?_
          refine gR_0_value (pc := 112) fx hw kw_1105 d_R_goThrough_112 ?_
          refine lv_bipush (pc := 115) (v := 45) hx hb d_R_goThrough_115 (by decide) ?_
          refine lv_icmp_eq (pc := 117) (tgt := 127) hx hb d_R_goThrough_117 (by decide) (fun c9 => ?_) (fun c9 => ?_)
          · replace h := h.1 c9
            exact c_R_goThrough_127 hX fx HR h hw (lv_sub hl [0, 1] rfl)
          · replace h := h.2 c9
            refine lv_aload_n (pc := 120) hx hb d_R_goThrough_120 rfl (lv_at hl 0 rfl) ?_
            refine lv_iconst (pc := 121) (v := 2) hx hb d_R_goThrough_121 (by decide) ?_
            refine cxI (pc := 122) hX fx hw (c_R_stop hX h) cw_R_191 (rcR_0 hw) rfl ⟨Nat.le_of_ble_eq_true rfl, Nat.le_of_ble_eq_true rfl⟩ hl.1 (Nat.le_of_ble_eq_true rfl) d_R_goThrough_122 ⟨Nat.zero_le _, Nat.zero_le _⟩ (fun r_10 σ_9 H locs hw h => ?_)
            have zr_10 := h.1
            replace h := h.2
            refine lv_pop (pc := 125) hx hb d_R_goThrough_125 rfl ?_
            exact HR d_R_goThrough_126 h hw
    · replace h := h.1 c9
      exact HR d_R_goThrough_93 h hw
set_option maxHeartbeats 4000000 in
set_option maxRecDepth 100000 in
theorem c_R_goThrough_71 (hX : XT X) (fx : CallFix p m c b_R_goThrough 5 s args GW RNR) {post : SS → Prop} (HR : RetV p l e r_R_goThrough s m args below meth c Q D vcl (tyl cA) (wR cA a) X A b_R_goThrough post) {k5 : SS → Int32 → Prop} (K5 : ∀ {σ : SS} {x1 : Int32} {H : Heap} {locs : List Loc} {ls : Array Slot}, k5 σ x1 → CX D vcl (tyl cA) (wR cA a σ) X A s H locs → lv_has ls 5 [(0, .ref (a 0)), (1, .int x1)] → W p l e r_R_goThrough s m args below meth c H locs 0 0 Q (F0 m 5 ls [])) {σ : SS} {x1 : Int32} {H : Heap} {locs : List Loc} {ls : Array Slot} (h : f_R_goThrough_71 post k5 σ x1) (hw : CX D vcl (tyl cA) (wR cA a σ) X A s H locs) (hl : lv_has ls 5 [(0, .ref (a 0)), (1, .int x1)]) : W p l e r_R_goThrough s m args below meth c H locs 0 0 Q (F0 m 71 ls []) := by
  have hx := fx.1
  have hb := fx.2.1
  unfold f_R_goThrough_71 at h
  refine lv_aload_n (pc := 71) hx hb d_R_goThrough_71 rfl (lv_at hl 0 rfl) ?_
  refine cxI (pc := 72) hX fx hw (c_R_next hX h) cw_R_349 (rcR_0 hw) rfl ⟨Nat.le_of_ble_eq_true rfl, Nat.le_of_ble_eq_true rfl⟩ hl.1 (Nat.le_of_ble_eq_true rfl) d_R_goThrough_72 ⟨Nat.zero_le _, Nat.zero_le _⟩ (fun r_12 σ_11 H locs hw h => ?_)
  have zr_12 := h.1
  replace h := h.2
  refine lv_pop (pc := 75) hx hb d_R_goThrough_75 rfl ?_
  refine lv_goto (pc := 76) (tgt := 5) hx hb d_R_goThrough_76 (by decide) ?_
  exact K5 h hw (lv_sub hl [0, 1] rfl)
set_option maxHeartbeats 4000000 in
set_option maxRecDepth 100000 in
theorem c_R_goThrough_5 (hX : XT X) (fx : CallFix p m c b_R_goThrough 5 s args GW RNR) {post : SS → Prop} (HR : RetV p l e r_R_goThrough s m args below meth c Q D vcl (tyl cA) (wR cA a) X A b_R_goThrough post) : ∀ (n : Nat) {σ : SS} {x1 : Int32} {H : Heap} {locs : List Loc} {ls : Array Slot}, f_R_goThrough_5 post n σ x1 → CX D vcl (tyl cA) (wR cA a σ) X A s H locs → lv_has ls 5 [(0, .ref (a 0)), (1, .int x1)] → W p l e r_R_goThrough s m args below meth c H locs 0 0 Q (F0 m 5 ls []) := by
  have hx := fx.1
  have hb := fx.2.1
  intro n
  induction n with
  | zero => intro σ x1 H locs ls h; exact h.elim
  | succ n ih =>
    intro σ x1 H locs ls h hw hl
    have K5 := @ih
    unfold f_R_goThrough_5 at h
    refine lv_aload_n (pc := 5) hx hb d_R_goThrough_5 rfl (lv_at hl 0 rfl) ?_
    refine gR_0_fault (pc := 6) fx hw kw_1089 d_R_goThrough_6 ?_
    refine lv_if_ne (pc := 9) (tgt := 79) hx hb d_R_goThrough_9 (by decide) (fun c9 => ?_) (fun c9 => ?_)
    · replace h := h.2 c9
      exact c_R_goThrough_79 hX fx HR h hw (lv_sub hl [0, 1] rfl)
    · replace h := h.1 c9
      refine lv_aload_n (pc := 12) hx hb d_R_goThrough_12 rfl (lv_at hl 0 rfl) ?_
      refine gR_0_kind (pc := 13) fx hw kw_1104 d_R_goThrough_13 ?_
      refine lv_iconst (pc := 16) (v := 1) hx hb d_R_goThrough_16 (by decide) ?_
      refine lv_icmp_ne (pc := 17) (tgt := 79) hx hb d_R_goThrough_17 (by decide) (fun c9 => ?_) (fun c9 => ?_)
      · replace h := h.2 c9
        exact c_R_goThrough_79 hX fx HR h hw (lv_sub hl [0, 1] rfl)
      · replace h := h.1 c9
        refine lv_aload_n (pc := 20) hx hb d_R_goThrough_20 rfl (lv_at hl 0 rfl) ?_
        refine gR_0_name (pc := 21) fx hw kw_1106 d_R_goThrough_21 ?_
        refine lv_topl (fun x2_13 e9 => ?_)
        replace h := nm_u h e9
        clear e9
        refine lv_lstore_n (pc := 24) (lv' := [(2, .long x2_13), (0, .ref (a 0)), (1, .int x1)]) hx hb d_R_goThrough_24 rfl hl (by decide) rfl (fun ls hl => ?_)
        refine lv_aload_n (pc := 25) hx hb d_R_goThrough_25 rfl (lv_at hl 1 rfl) ?_
        refine gR_0_at (pc := 26) fx hw kw_1102 d_R_goThrough_26 ?_
        refine lv_topi (fun x4_14 e9 => ?_)
        replace h := nm_u h e9
        clear e9
        refine lv_istore (pc := 29) (lv' := [(4, .int x4_14), (2, .long x2_13), (0, .ref (a 0)), (1, .int x1)]) hx hb d_R_goThrough_29 hl (by decide) rfl (fun ls hl => ?_)
        refine lv_aload_n (pc := 31) hx hb d_R_goThrough_31 rfl (lv_at hl 2 rfl) ?_
        refine cxI (pc := 32) hX fx hw (c_R_next hX h) cw_R_349 (rcR_0 hw) rfl ⟨Nat.le_of_ble_eq_true rfl, Nat.le_of_ble_eq_true rfl⟩ hl.1 (Nat.le_of_ble_eq_true rfl) d_R_goThrough_32 ⟨Nat.zero_le _, Nat.zero_le _⟩ (fun r_16 σ_15 H locs hw h => ?_)
        have zr_16 := h.1
        replace h := h.2
        refine lv_pop (pc := 35) hx hb d_R_goThrough_35 rfl ?_
        refine lv_aload_n (pc := 36) hx hb d_R_goThrough_36 rfl (lv_at hl 2 rfl) ?_
        refine gR_0_fault (pc := 37) fx hw kw_1089 d_R_goThrough_37 ?_
        refine lv_if_eq (pc := 40) (tgt := 44) hx hb d_R_goThrough_40 (by decide) (fun c9 => ?_) (fun c9 => ?_)
        · replace h := h.1 c9
          refine lv_aload_n (pc := 44) hx hb d_R_goThrough_44 rfl (lv_at hl 2 rfl) ?_
          refine lv_bipush (pc := 45) (v := 58) hx hb d_R_goThrough_45 (by decide) ?_
          refine cxI (pc := 47) hX fx hw (c_R_isSign hX h) cw_R_352 (rcR_0 hw) rfl ⟨Nat.le_of_ble_eq_true rfl, Nat.le_of_ble_eq_true rfl⟩ hl.1 (Nat.le_of_ble_eq_true rfl) d_R_goThrough_47 ⟨Nat.zero_le _, Nat.zero_le _⟩ (fun r_18 σ_17 H locs hw h => ?_)
          have zr_18 := h.1
          replace h := h.2
          refine lv_if_ne (pc := 50) (tgt := 62) hx hb d_R_goThrough_50 (by decide) (fun c9 => ?_) (fun c9 => ?_)
          · replace h := h.2 c9
            refine lv_iload_n (pc := 62) hx hb d_R_goThrough_62 rfl (lv_at hl 3 rfl) ?_
            refine lv_if_eq (pc := 63) (tgt := 71) hx hb d_R_goThrough_63 (by decide) (fun c9 => ?_) (fun c9 => ?_)
            · replace h := h.1 c9
              exact c_R_goThrough_71 hX fx HR K5 h hw (lv_sub hl [2, 3] rfl)
            · replace h := h.2 c9
              refine lv_aload_n (pc := 66) hx hb d_R_goThrough_66 rfl (lv_at hl 2 rfl) ?_
              refine lv_lload_n (pc := 67) hx hb d_R_goThrough_67 rfl (lv_at hl 1 rfl) ?_
              refine cxU (pc := 68) hX fx hw (c_R_addLabel hX h) cw_R_387 (rcR_0 hw) rfl ⟨Nat.le_of_ble_eq_true rfl, Nat.le_of_ble_eq_true rfl⟩ hl.1 (Nat.le_of_ble_eq_true rfl) d_R_goThrough_68 ⟨Nat.zero_le _, Nat.zero_le _⟩ (fun σ_19 H locs hw h => ?_)
              exact c_R_goThrough_71 hX fx HR K5 h hw (lv_sub hl [2, 3] rfl)
          · replace h := h.1 c9
            refine lv_aload_n (pc := 53) hx hb d_R_goThrough_53 rfl (lv_at hl 2 rfl) ?_
            refine lv_lload_n (pc := 54) hx hb d_R_goThrough_54 rfl (lv_at hl 1 rfl) ?_
            refine lv_iload (pc := 55) hx hb d_R_goThrough_55 (lv_at hl 0 rfl) ?_
            refine lv_iload_n (pc := 57) hx hb d_R_goThrough_57 rfl (lv_at hl 3 rfl) ?_
            refine cxU (pc := 58) hX fx hw (c_R_begin hX h) cw_R_383 (rcR_0 hw) rfl ⟨Nat.le_of_ble_eq_true rfl, Nat.le_of_ble_eq_true rfl⟩ hl.1 (Nat.le_of_ble_eq_true rfl) d_R_goThrough_58 ⟨Nat.zero_le _, Nat.zero_le _⟩ (fun σ_21 H locs hw h => ?_)
            exact HR d_R_goThrough_61 h hw
        · replace h := h.2 c9
          exact HR d_R_goThrough_43 h hw
set_option maxHeartbeats 4000000 in
set_option maxRecDepth 100000 in
theorem e_R_goThrough (hX : XT X) (fx : CallFix p m c b_R_goThrough 5 s args GW RNR) {post : SS → Prop} (HR : RetV p l e r_R_goThrough s m args below meth c Q D vcl (tyl cA) (wR cA a) X A b_R_goThrough post) {σ : SS} {x1 : Int32} {H : Heap} {locs : List Loc} {ls : Array Slot} (h : f_R_goThrough post σ x1) (hw : CX D vcl (tyl cA) (wR cA a σ) X A s H locs) (hl : lv_has ls 5 [(0, .ref (a 0)), (1, .int x1)]) : W p l e r_R_goThrough s m args below meth c H locs 0 0 Q (F0 m 0 ls []) := by
  have hx := fx.1
  have hb := fx.2.1
  unfold f_R_goThrough at h
  refine lv_aload_n (pc := 0) hx hb d_R_goThrough_0 rfl (lv_at hl 0 rfl) ?_
  refine cxI (pc := 1) hX fx hw (c_R_next hX h) cw_R_349 (rcR_0 hw) rfl ⟨Nat.le_of_ble_eq_true rfl, Nat.le_of_ble_eq_true rfl⟩ hl.1 (Nat.le_of_ble_eq_true rfl) d_R_goThrough_1 ⟨Nat.zero_le _, Nat.zero_le _⟩ (fun r_24 σ_23 H locs hw h => ?_)
  have zr_24 := h.1
  replace h := h.2
  refine lv_pop (pc := 4) hx hb d_R_goThrough_4 rfl ?_
  obtain ⟨n9, h⟩ := h
  exact c_R_goThrough_5 hX fx HR n9 h hw (lv_sub hl [0, 1] rfl)
end
theorem c_R_goThrough {l : Launch} {D : va_G} {cA : Nat → ClassId} {a : Nat → Nat} {X : (Nat → Prop) → State → Prop} (hX : XT X) {σ : SS} {post : SS → Prop} {x1 : Int32} (h : f_R_goThrough post σ x1) : mV l y_R_goThrough b_R_goThrough 5 none 9 212 D vcl (tyl cA) (wR cA a) X σ [.ref (a 0), .int x1] post := met_V (by decide) (Nat.le_of_ble_eq_true rfl) (fun p e s m args below meth c A Q fx HR H ls hw hl => e_R_goThrough hX fx HR h hw hl)
