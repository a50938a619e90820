/-! the reference, walked: part 6 -/
abbrev r_R_told : Room := { frames := 0, cells := 0, slots := 0, locals := 0 }
def f_R_told (post : Int32 → SS → Prop) (σ : SS) (x1 : Int32) : Prop := nm (sI σ 29 0) fun σ_1 => br (x1 < 0) (post (-1) σ_1) (br ((σ_1.1 28) ≤ x1) (post (-1) σ_1) (vp_in x1 40 ∧ post (σ_1.2.1 18 x1.toNatClampNeg) σ_1))
section
variable {p : Program} {l : Launch} {e : Env} {s : State} {m : MethodId} {args : Array Value} {below : List Frame} {meth : Method} {c : Code} {Q : State → Prop} {D : va_G} {cA : Nat → ClassId} {a : Nat → Nat} {X : (Nat → Prop) → State → Prop} {A : Nat → Prop}
set_option maxHeartbeats 4000000 in
set_option maxRecDepth 100000 in
theorem e_R_told (hX : XT X) (fx : CallFix p m c b_R_told 2 s args GW RNR) {post : Int32 → SS → Prop} (HR : RetI p l e r_R_told s m args below meth c Q D vcl (tyl cA) (wR cA a) X A b_R_told .int post) {σ : SS} {x1 : Int32} {H : Heap} {locs : List Loc} {ls : Array Slot} (h : f_R_told post σ x1) (hw : CX D vcl (tyl cA) (wR cA a σ) X A s H locs) (hl : lv_has ls 2 [(0, .ref (a 0)), (1, .int x1)]) : W p l e r_R_told s m args below meth c H locs 0 0 Q (F0 m 0 ls []) := by
  have hx := fx.1
  have hb := fx.2.1
  unfold f_R_told at h
  refine lv_aload_n (pc := 0) hx hb d_R_told_0 rfl (lv_at hl 0 rfl) ?_
  refine lv_iconst (pc := 1) (v := 0) hx hb d_R_told_1 (by decide) ?_
  refine pR_0_thrown (pc := 2) fx hw kw_1115 d_R_told_2 (fun σ_1 e9 H locs hw => ?_)
  replace h := nm_u h e9
  clear e9
  refine lv_iload_n (pc := 5) hx hb d_R_told_5 rfl (lv_at hl 1 rfl) ?_
  refine lv_if_lt (pc := 6) (tgt := 26) hx hb d_R_told_6 (by decide) (fun c9 => ?_) (fun c9 => ?_)
  · replace h := h.1 c9
    refine lv_iconst (pc := 26) (v := (-1)) hx hb d_R_told_26 (by decide) ?_
    exact HR rfl d_R_told_27 h hw
  · replace h := h.2 c9
    refine lv_iload_n (pc := 9) hx hb d_R_told_9 rfl (lv_at hl 1 rfl) ?_
    refine lv_aload_n (pc := 10) hx hb d_R_told_10 rfl (lv_at hl 0 rfl) ?_
    refine gR_0_toldSize (pc := 11) fx hw kw_1114 d_R_told_11 ?_
    refine lv_icmp_ge (pc := 14) (tgt := 26) hx hb d_R_told_14 (by decide) (fun c9 => ?_) (fun c9 => ?_)
    · replace h := h.1 c9
      refine lv_iconst (pc := 26) (v := (-1)) hx hb d_R_told_26 (by decide) ?_
      exact HR rfl d_R_told_27 h hw
    · replace h := h.2 c9
      refine lv_aload_n (pc := 17) hx hb d_R_told_17 rfl (lv_at hl 0 rfl) ?_
      refine gR_0_told (pc := 18) fx hw kw_1113 d_R_told_18 ?_
      refine lv_iload_n (pc := 21) hx hb d_R_told_21 rfl (lv_at hl 1 rfl) ?_
      refine alR_18 (pc := 22) fx hw h.1 d_R_told_22 ?_
      replace h := h.2
      refine lv_goto (pc := 23) (tgt := 27) hx hb d_R_told_23 (by decide) ?_
      exact HR rfl d_R_told_27 h hw
end
theorem c_R_told {l : Launch} {D : va_G} {cA : Nat → ClassId} {a : Nat → Nat} {X : (Nat → Prop) → State → Prop} (hX : XT X) {σ : SS} {post : Int32 → SS → Prop} {x1 : Int32} (h : f_R_told post σ x1) : mI l y_R_told b_R_told 2 (some .int) 0 0 D vcl (tyl cA) (wR cA a) X σ [.ref (a 0), .int x1] post := met_I (by decide) (Nat.le_of_ble_eq_true rfl) (fun p e s m args below meth c A Q fx HR H ls hw hl => e_R_told hX fx HR h hw hl)
