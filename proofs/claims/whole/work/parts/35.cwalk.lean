/-! the class, walked: part 6 -/
abbrev r_N_told : Room := { frames := 1, cells := 0, slots := 0, locals := 21 }
def f_N_told (post : Int32 → SS → Prop) (σ : SS) (x1 : Int32) : Prop := f_T_characterAt (fun r_2 σ_1 => post r_2 σ_1) σ x1
section
variable {p : Program} {l : Launch} {e : Env} {s : State} {m : MethodId} {args : Array Value} {below : List Frame} {meth : Method} {c : Code} {Q : State → Prop} {D : va_G} {cA : Nat → ClassId} {a : Nat → Nat} {ad : Nat → Nat → Nat} {A : Nat → Prop}
set_option maxHeartbeats 4000000 in
set_option maxRecDepth 100000 in
theorem e_N_told (fx : CallFix p m c b_N_told 2 s args GW RNN) {post : Int32 → SS → Prop} (HR : RetI p l e r_N_told s m args below meth c Q D vcl (tyl cA) (wC cA a) (XC ad) A b_N_told .int post) {σ : SS} {x1 : Int32} {H : Heap} {locs : List Loc} {ls : Array Slot} (h : f_N_told post σ x1) (hw : CX D vcl (tyl cA) (wC cA a σ) (XC ad) A s H locs) (hl : lv_has ls 2 [(0, .ref (a 0)), (1, .int x1)]) : W p l e r_N_told s m args below meth c H locs 0 0 Q (F0 m 0 ls []) := by
  have hx := fx.1
  have hb := fx.2.1
  unfold f_N_told at h
  refine lv_aload_n (pc := 0) hx hb d_N_told_0 rfl (lv_at hl 0 rfl) ?_
  refine gC_0_teller (pc := 1) fx hw kw_278 d_N_told_1 ?_
  refine lv_iload_n (pc := 4) hx hb d_N_told_4 rfl (lv_at hl 1 rfl) ?_
  refine rsI (pc := 5) hw (rnV (pc := 5) xtC fx hw (c_T_characterAt h _) cw_N_144 (rcC_23 hw) rfl ⟨Nat.le_of_ble_eq_true rfl, Nat.le_of_ble_eq_true rfl⟩ hl.1 (Nat.le_of_ble_eq_true rfl) d_N_told_5 ⟨Nat.zero_le _, Nat.zero_le _⟩) (fun r_2 σ_1 H locs hw h => ?_)
  exact HR rfl d_N_told_8 h hw
end
theorem c_N_told {l : Launch} {D : va_G} {cA : Nat → ClassId} {a : Nat → Nat} {ad : Nat → Nat → Nat} {σ : SS} {post : Int32 → SS → Prop} {x1 : Int32} (h : f_N_told post σ x1) : mI l y_N_told b_N_told 2 (some .int) 1 21 D vcl (tyl cA) (wC cA a) (XC ad) σ [.ref (a 0), .int x1] post := met_I (by decide) (Nat.le_of_ble_eq_true rfl) (fun p e s m args below meth c A Q fx HR H ls hw hl => e_N_told  fx HR h hw hl)
abbrev r_N_highestOf : Room := { frames := 0, cells := 0, slots := 0, locals := 0 }
def f_N_highestOf (post : Int32 → SS → Prop) (σ : SS) (x0 : Int32) : Prop := br (x0 = (4 : Int32)) (post 1 σ) (br (x0 = (5 : Int32)) (post 32767 σ) (post 65535 σ))
section
variable {p : Program} {l : Launch} {e : Env} {s : State} {m : MethodId} {args : Array Value} {below : List Frame} {meth : Method} {c : Code} {Q : State → Prop} {D : va_G} {cA : Nat → ClassId} {a : Nat → Nat} {ad : Nat → Nat → Nat} {A : Nat → Prop}
set_option maxHeartbeats 4000000 in
set_option maxRecDepth 100000 in
theorem e_N_highestOf (fx : CallFix p m c b_N_highestOf 1 s args GW RNN) {post : Int32 → SS → Prop} (HR : RetI p l e r_N_highestOf s m args below meth c Q D vcl (tyl cA) (wC cA a) (XC ad) A b_N_highestOf .int post) {σ : SS} {x0 : Int32} {H : Heap} {locs : List Loc} {ls : Array Slot} (h : f_N_highestOf post σ x0) (hw : CX D vcl (tyl cA) (wC cA a σ) (XC ad) A s H locs) (hl : lv_has ls 1 [(0, .int x0)]) : W p l e r_N_highestOf s m args below meth c H locs 0 0 Q (F0 m 0 ls []) := by
  have hx := fx.1
  have hb := fx.2.1
  unfold f_N_highestOf at h
  refine lv_iload_n (pc := 0) hx hb d_N_highestOf_0 rfl (lv_at hl 0 rfl) ?_
  by_cases cq_1 : x0 = (4 : Int32)
  · replace h := h.1 cq_1
    refine lv_lookup (pc := 1) (off := 27) (tgt := 28) hx hb d_N_highestOf_1 (by decide) (by rw [cq_1]; decide) (by decide) ?_
    refine lv_iconst (pc := 28) (v := 1) hx hb d_N_highestOf_28 (by decide) ?_
    exact HR rfl d_N_highestOf_29 h hw
  replace h := h.2 cq_1
  by_cases cq_2 : x0 = (5 : Int32)
  · replace h := h.1 cq_2
    refine lv_lookup (pc := 1) (off := 29) (tgt := 30) hx hb d_N_highestOf_1 (by decide) (by rw [cq_2]; decide) (by decide) ?_
    refine lv_sipush (pc := 30) (v := 32767) hx hb d_N_highestOf_30 (by decide) ?_
    exact HR rfl d_N_highestOf_33 h hw
  replace h := h.2 cq_2
  refine lv_lookup (pc := 1) (off := 33) (tgt := 34) hx hb d_N_highestOf_1 (by decide) (by rw [lv_osw cq_1 (by decide), lv_osw cq_2 (by decide)]; rfl) (by decide) ?_
  refine lv_ldc (pc := 34) (v := 65535) hx hb fx.2.2.2.1 (fx.2.2.2.2 _ kw_657) d_N_highestOf_34 ?_
  exact HR rfl d_N_highestOf_36 h hw
end
theorem c_N_highestOf {l : Launch} {D : va_G} {cA : Nat → ClassId} {a : Nat → Nat} {ad : Nat → Nat → Nat} {σ : SS} {post : Int32 → SS → Prop} {x0 : Int32} (h : f_N_highestOf post σ x0) : mI l y_N_highestOf b_N_highestOf 1 (some .int) 0 0 D vcl (tyl cA) (wC cA a) (XC ad) σ [.int x0] post := met_I (by decide) (Nat.le_of_ble_eq_true rfl) (fun p e s m args below meth c A Q fx HR H ls hw hl => e_N_highestOf  fx HR h hw hl)
