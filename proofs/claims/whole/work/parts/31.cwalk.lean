/-! the class, walked: part 2 -/
abbrev r_M_operateNothing : Room := { frames := 0, cells := 0, slots := 0, locals := 0 }
def f_M_operateNothing (post : Int32 → SS → Prop) (σ : SS) (x1 : Int32) (x2 : Int32) (x3 : Int32) : Prop := br (x2 = 7) (br (x3 = 1) (post 1 σ) (br (x3 = 3) (post 1 σ) (post 0 σ))) (br ((x2 &&& 1) = 1) (vp_in x1 4 ∧ nm (sA σ 3 x1.toNatClampNeg 0) fun σ_1 => post 0 σ_1) (post 0 σ))
section
variable {p : Program} {l : Launch} {e : Env} {s : State} {m : MethodId} {args : Array Value} {below : List Frame} {meth : Method} {c : Code} {Q : State → Prop} {D : va_G} {cA : Nat → ClassId} {a : Nat → Nat} {ad : Nat → Nat → Nat} {A : Nat → Prop}
set_option maxHeartbeats 4000000 in
set_option maxRecDepth 100000 in
theorem e_M_operateNothing (fx : CallFix p m c b_M_operateNothing 4 s args GW RNM) {post : Int32 → SS → Prop} (HR : RetI p l e r_M_operateNothing s m args below meth c Q D vcl (tyl cA) (wC cA a) (XC ad) A b_M_operateNothing .boolean (fun r σ => bz r ∧ post r σ)) {σ : SS} {x1 : Int32} {x2 : Int32} {x3 : Int32} {H : Heap} {locs : List Loc} {ls : Array Slot} (h : f_M_operateNothing post σ x1 x2 x3) (hw : CX D vcl (tyl cA) (wC cA a σ) (XC ad) A s H locs) (hl : lv_has ls 4 [(0, .ref (a 1)), (1, .int x1), (2, .int x2), (3, .int x3)]) : W p l e r_M_operateNothing s m args below meth c H locs 0 0 Q (F0 m 0 ls []) := by
  have hx := fx.1
  have hb := fx.2.1
  unfold f_M_operateNothing at h
  refine lv_iload_n (pc := 0) hx hb d_M_operateNothing_0 rfl (lv_at hl 2 rfl) ?_
  refine lv_bipush (pc := 1) (v := 7) hx hb d_M_operateNothing_1 (by decide) ?_
  refine lv_icmp_ne (pc := 3) (tgt := 22) hx hb d_M_operateNothing_3 (by decide) (fun c9 => ?_) (fun c9 => ?_)
  · replace h := h.2 c9
    refine lv_iload_n (pc := 22) hx hb d_M_operateNothing_22 rfl (lv_at hl 2 rfl) ?_
    refine lv_iconst (pc := 23) (v := 1) hx hb d_M_operateNothing_23 (by decide) ?_
    refine lv_iand (pc := 24) hx hb d_M_operateNothing_24 ?_
    refine lv_iconst (pc := 25) (v := 1) hx hb d_M_operateNothing_25 (by decide) ?_
    refine lv_icmp_ne (pc := 26) (tgt := 36) hx hb d_M_operateNothing_26 (by decide) (fun c9 => ?_) (fun c9 => ?_)
    · replace h := h.2 c9
      refine lv_iconst (pc := 36) (v := 0) hx hb d_M_operateNothing_36 (by decide) ?_
      exact HR (bz_n bz_0) d_M_operateNothing_37 ⟨bz_0, h⟩ hw
    · replace h := h.1 c9
      refine lv_aload_n (pc := 29) hx hb d_M_operateNothing_29 rfl (lv_at hl 0 rfl) ?_
      refine gC_1_accumulators (pc := 30) fx hw kw_123 d_M_operateNothing_30 ?_
      refine lv_iload_n (pc := 33) hx hb d_M_operateNothing_33 rfl (lv_at hl 1 rfl) ?_
      refine lv_iconst (pc := 34) (v := 0) hx hb d_M_operateNothing_34 (by decide) ?_
      refine asC_3 (pc := 35) fx hw h.1 d_M_operateNothing_35 (fun σ_1 e9 H locs hw => ?_)
      replace h := nm_u h.2 e9
      clear e9
      refine lv_iconst (pc := 36) (v := 0) hx hb d_M_operateNothing_36 (by decide) ?_
      exact HR (bz_n bz_0) d_M_operateNothing_37 ⟨bz_0, h⟩ hw
  · replace h := h.1 c9
    refine lv_iload_n (pc := 6) hx hb d_M_operateNothing_6 rfl (lv_at hl 3 rfl) ?_
    refine lv_iconst (pc := 7) (v := 1) hx hb d_M_operateNothing_7 (by decide) ?_
    refine lv_icmp_eq (pc := 8) (tgt := 16) hx hb d_M_operateNothing_8 (by decide) (fun c9 => ?_) (fun c9 => ?_)
    · replace h := h.1 c9
      refine lv_iconst (pc := 16) (v := 1) hx hb d_M_operateNothing_16 (by decide) ?_
      refine lv_goto (pc := 17) (tgt := 21) hx hb d_M_operateNothing_17 (by decide) ?_
      exact HR (bz_n bz_1) d_M_operateNothing_21 ⟨bz_1, h⟩ hw
    · replace h := h.2 c9
      refine lv_iload_n (pc := 11) hx hb d_M_operateNothing_11 rfl (lv_at hl 3 rfl) ?_
      refine lv_iconst (pc := 12) (v := 3) hx hb d_M_operateNothing_12 (by decide) ?_
      refine lv_icmp_ne (pc := 13) (tgt := 20) hx hb d_M_operateNothing_13 (by decide) (fun c9 => ?_) (fun c9 => ?_)
      · replace h := h.2 c9
        refine lv_iconst (pc := 20) (v := 0) hx hb d_M_operateNothing_20 (by decide) ?_
        exact HR (bz_n bz_0) d_M_operateNothing_21 ⟨bz_0, h⟩ hw
      · replace h := h.1 c9
        refine lv_iconst (pc := 16) (v := 1) hx hb d_M_operateNothing_16 (by decide) ?_
        refine lv_goto (pc := 17) (tgt := 21) hx hb d_M_operateNothing_17 (by decide) ?_
        exact HR (bz_n bz_1) d_M_operateNothing_21 ⟨bz_1, h⟩ hw
end
theorem c_M_operateNothing {l : Launch} {D : va_G} {cA : Nat → ClassId} {a : Nat → Nat} {ad : Nat → Nat → Nat} {σ : SS} {post : Int32 → SS → Prop} {x1 : Int32} {x2 : Int32} {x3 : Int32} (h : f_M_operateNothing post σ x1 x2 x3) : mI l y_M_operateNothing b_M_operateNothing 4 (some .boolean) 0 0 D vcl (tyl cA) (wC cA a) (XC ad) σ [.ref (a 1), .int x1, .int x2, .int x3] (fun r σ => bz r ∧ post r σ) := met_I (by decide) (Nat.le_of_ble_eq_true rfl) (fun p e s m args below meth c A Q fx HR H ls hw hl => e_M_operateNothing  fx HR h hw hl)
abbrev r_D_asks_4 : Room := { frames := 0, cells := 0, slots := 0, locals := 0 }
def f_D_asks_4 (post : Int32 → SS → Prop) (σ : SS) (x1 : Int32) : Prop := br ((σ.1 11) = 0) (post 0 σ) (br ((x1 &&& 2) = 0) (post 1 σ) (post 0 σ))
section
variable {p : Program} {l : Launch} {e : Env} {s : State} {m : MethodId} {args : Array Value} {below : List Frame} {meth : Method} {c : Code} {Q : State → Prop} {D : va_G} {cA : Nat → ClassId} {a : Nat → Nat} {ad : Nat → Nat → Nat} {A : Nat → Prop}
set_option maxHeartbeats 4000000 in
set_option maxRecDepth 100000 in
theorem e_D_asks_4 (fx : CallFix p m c b_D_asks 2 s args GW "NovaDesk$Device") {post : Int32 → SS → Prop} (HR : RetI p l e r_D_asks_4 s m args below meth c Q D vcl (tyl cA) (wC cA a) (XC ad) A b_D_asks .boolean (fun r σ => bz r ∧ post r σ)) {σ : SS} {x1 : Int32} {H : Heap} {locs : List Loc} {ls : Array Slot} (h : f_D_asks_4 post σ x1) (hw : CX D vcl (tyl cA) (wC cA a σ) (XC ad) A s H locs) (hl : lv_has ls 2 [(0, .ref (a 4)), (1, .int x1)]) : W p l e r_D_asks_4 s m args below meth c H locs 0 0 Q (F0 m 0 ls []) := by
  have hx := fx.1
  have hb := fx.2.1
  unfold f_D_asks_4 at h
  refine lv_aload_n (pc := 0) hx hb d_D_asks_0 rfl (lv_at hl 0 rfl) ?_
  refine gC_4_done (pc := 1) fx hw kw_64 d_D_asks_1 ?_
  refine lv_if_eq (pc := 4) (tgt := 20) hx hb d_D_asks_4 (by decide) (fun c9 => ?_) (fun c9 => ?_)
  · replace h := h.1 c9
    refine lv_iconst (pc := 20) (v := 0) hx hb d_D_asks_20 (by decide) ?_
    exact HR (bz_n bz_0) d_D_asks_21 ⟨bz_0, h⟩ hw
  · replace h := h.2 c9
    refine lv_iload_n (pc := 7) hx hb d_D_asks_7 rfl (lv_at hl 1 rfl) ?_
    refine lv_aload_n (pc := 8) hx hb d_D_asks_8 rfl (lv_at hl 0 rfl) ?_
    refine gC_4_maskBit (pc := 9) fx hw kw_54 d_D_asks_9 ?_
    refine lv_iand (pc := 12) hx hb d_D_asks_12 ?_
    refine lv_if_ne (pc := 13) (tgt := 20) hx hb d_D_asks_13 (by decide) (fun c9 => ?_) (fun c9 => ?_)
    · replace h := h.2 c9
      refine lv_iconst (pc := 20) (v := 0) hx hb d_D_asks_20 (by decide) ?_
      exact HR (bz_n bz_0) d_D_asks_21 ⟨bz_0, h⟩ hw
    · replace h := h.1 c9
      refine lv_iconst (pc := 16) (v := 1) hx hb d_D_asks_16 (by decide) ?_
      refine lv_goto (pc := 17) (tgt := 21) hx hb d_D_asks_17 (by decide) ?_
      exact HR (bz_n bz_1) d_D_asks_21 ⟨bz_1, h⟩ hw
end
theorem c_D_asks_4 {l : Launch} {D : va_G} {cA : Nat → ClassId} {a : Nat → Nat} {ad : Nat → Nat → Nat} {σ : SS} {post : Int32 → SS → Prop} {x1 : Int32} (h : f_D_asks_4 post σ x1) : mI l y_D_asks b_D_asks 2 (some .boolean) 0 0 D vcl (tyl cA) (wC cA a) (XC ad) σ [.ref (a 4), .int x1] (fun r σ => bz r ∧ post r σ) := met_I (by decide) (Nat.le_of_ble_eq_true rfl) (fun p e s m args below meth c A Q fx HR H ls hw hl => e_D_asks_4  fx HR h hw hl)
abbrev r_D_asks_6 : Room := { frames := 0, cells := 0, slots := 0, locals := 0 }
def f_D_asks_6 (post : Int32 → SS → Prop) (σ : SS) (x1 : Int32) : Prop := br ((σ.1 17) = 0) (post 0 σ) (br ((x1 &&& 1) = 0) (post 1 σ) (post 0 σ))
section
variable {p : Program} {l : Launch} {e : Env} {s : State} {m : MethodId} {args : Array Value} {below : List Frame} {meth : Method} {c : Code} {Q : State → Prop} {D : va_G} {cA : Nat → ClassId} {a : Nat → Nat} {ad : Nat → Nat → Nat} {A : Nat → Prop}
set_option maxHeartbeats 4000000 in
set_option maxRecDepth 100000 in
theorem e_D_asks_6 (fx : CallFix p m c b_D_asks 2 s args GW "NovaDesk$Device") {post : Int32 → SS → Prop} (HR : RetI p l e r_D_asks_6 s m args below meth c Q D vcl (tyl cA) (wC cA a) (XC ad) A b_D_asks .boolean (fun r σ => bz r ∧ post r σ)) {σ : SS} {x1 : Int32} {H : Heap} {locs : List Loc} {ls : Array Slot} (h : f_D_asks_6 post σ x1) (hw : CX D vcl (tyl cA) (wC cA a σ) (XC ad) A s H locs) (hl : lv_has ls 2 [(0, .ref (a 6)), (1, .int x1)]) : W p l e r_D_asks_6 s m args below meth c H locs 0 0 Q (F0 m 0 ls []) := by
  have hx := fx.1
  have hb := fx.2.1
  unfold f_D_asks_6 at h
  refine lv_aload_n (pc := 0) hx hb d_D_asks_0 rfl (lv_at hl 0 rfl) ?_
  refine gC_6_done (pc := 1) fx hw kw_64 d_D_asks_1 ?_
  refine lv_if_eq (pc := 4) (tgt := 20) hx hb d_D_asks_4 (by decide) (fun c9 => ?_) (fun c9 => ?_)
  · replace h := h.1 c9
    refine lv_iconst (pc := 20) (v := 0) hx hb d_D_asks_20 (by decide) ?_
    exact HR (bz_n bz_0) d_D_asks_21 ⟨bz_0, h⟩ hw
  · replace h := h.2 c9
    refine lv_iload_n (pc := 7) hx hb d_D_asks_7 rfl (lv_at hl 1 rfl) ?_
    refine lv_aload_n (pc := 8) hx hb d_D_asks_8 rfl (lv_at hl 0 rfl) ?_
    refine gC_6_maskBit (pc := 9) fx hw kw_54 d_D_asks_9 ?_
    refine lv_iand (pc := 12) hx hb d_D_asks_12 ?_
    refine lv_if_ne (pc := 13) (tgt := 20) hx hb d_D_asks_13 (by decide) (fun c9 => ?_) (fun c9 => ?_)
    · replace h := h.2 c9
      refine lv_iconst (pc := 20) (v := 0) hx hb d_D_asks_20 (by decide) ?_
      exact HR (bz_n bz_0) d_D_asks_21 ⟨bz_0, h⟩ hw
    · replace h := h.1 c9
      refine lv_iconst (pc := 16) (v := 1) hx hb d_D_asks_16 (by decide) ?_
      refine lv_goto (pc := 17) (tgt := 21) hx hb d_D_asks_17 (by decide) ?_
      exact HR (bz_n bz_1) d_D_asks_21 ⟨bz_1, h⟩ hw
end
theorem c_D_asks_6 {l : Launch} {D : va_G} {cA : Nat → ClassId} {a : Nat → Nat} {ad : Nat → Nat → Nat} {σ : SS} {post : Int32 → SS → Prop} {x1 : Int32} (h : f_D_asks_6 post σ x1) : mI l y_D_asks b_D_asks 2 (some .boolean) 0 0 D vcl (tyl cA) (wC cA a) (XC ad) σ [.ref (a 6), .int x1] (fun r σ => bz r ∧ post r σ) := met_I (by decide) (Nat.le_of_ble_eq_true rfl) (fun p e s m args below meth c A Q fx HR H ls hw hl => e_D_asks_6  fx HR h hw hl)
abbrev r_D_asks_8 : Room := { frames := 0, cells := 0, slots := 0, locals := 0 }
def f_D_asks_8 (post : Int32 → SS → Prop) (σ : SS) (x1 : Int32) : Prop := br ((σ.1 22) = 0) (post 0 σ) (br ((x1 &&& 4) = 0) (post 1 σ) (post 0 σ))
section
variable {p : Program} {l : Launch} {e : Env} {s : State} {m : MethodId} {args : Array Value} {below : List Frame} {meth : Method} {c : Code} {Q : State → Prop} {D : va_G} {cA : Nat → ClassId} {a : Nat → Nat} {ad : Nat → Nat → Nat} {A : Nat → Prop}
set_option maxHeartbeats 4000000 in
set_option maxRecDepth 100000 in
theorem e_D_asks_8 (fx : CallFix p m c b_D_asks 2 s args GW "NovaDesk$Device") {post : Int32 → SS → Prop} (HR : RetI p l e r_D_asks_8 s m args below meth c Q D vcl (tyl cA) (wC cA a) (XC ad) A b_D_asks .boolean (fun r σ => bz r ∧ post r σ)) {σ : SS} {x1 : Int32} {H : Heap} {locs : List Loc} {ls : Array Slot} (h : f_D_asks_8 post σ x1) (hw : CX D vcl (tyl cA) (wC cA a σ) (XC ad) A s H locs) (hl : lv_has ls 2 [(0, .ref (a 8)), (1, .int x1)]) : W p l e r_D_asks_8 s m args below meth c H locs 0 0 Q (F0 m 0 ls []) := by
  have hx := fx.1
  have hb := fx.2.1
  unfold f_D_asks_8 at h
  refine lv_aload_n (pc := 0) hx hb d_D_asks_0 rfl (lv_at hl 0 rfl) ?_
  refine gC_8_done (pc := 1) fx hw kw_64 d_D_asks_1 ?_
  refine lv_if_eq (pc := 4) (tgt := 20) hx hb d_D_asks_4 (by decide) (fun c9 => ?_) (fun c9 => ?_)
  · replace h := h.1 c9
    refine lv_iconst (pc := 20) (v := 0) hx hb d_D_asks_20 (by decide) ?_
    exact HR (bz_n bz_0) d_D_asks_21 ⟨bz_0, h⟩ hw
  · replace h := h.2 c9
    refine lv_iload_n (pc := 7) hx hb d_D_asks_7 rfl (lv_at hl 1 rfl) ?_
    refine lv_aload_n (pc := 8) hx hb d_D_asks_8 rfl (lv_at hl 0 rfl) ?_
    refine gC_8_maskBit (pc := 9) fx hw kw_54 d_D_asks_9 ?_
    refine lv_iand (pc := 12) hx hb d_D_asks_12 ?_
    refine lv_if_ne (pc := 13) (tgt := 20) hx hb d_D_asks_13 (by decide) (fun c9 => ?_) (fun c9 => ?_)
    · replace h := h.2 c9
      refine lv_iconst (pc := 20) (v := 0) hx hb d_D_asks_20 (by decide) ?_
      exact HR (bz_n bz_0) d_D_asks_21 ⟨bz_0, h⟩ hw
    · replace h := h.1 c9
      refine lv_iconst (pc := 16) (v := 1) hx hb d_D_asks_16 (by decide) ?_
      refine lv_goto (pc := 17) (tgt := 21) hx hb d_D_asks_17 (by decide) ?_
      exact HR (bz_n bz_1) d_D_asks_21 ⟨bz_1, h⟩ hw
end
theorem c_D_asks_8 {l : Launch} {D : va_G} {cA : Nat → ClassId} {a : Nat → Nat} {ad : Nat → Nat → Nat} {σ : SS} {post : Int32 → SS → Prop} {x1 : Int32} (h : f_D_asks_8 post σ x1) : mI l y_D_asks b_D_asks 2 (some .boolean) 0 0 D vcl (tyl cA) (wC cA a) (XC ad) σ [.ref (a 8), .int x1] (fun r σ => bz r ∧ post r σ) := met_I (by decide) (Nat.le_of_ble_eq_true rfl) (fun p e s m args below meth c A Q fx HR H ls hw hl => e_D_asks_8  fx HR h hw hl)
abbrev r_M_askingDevice : Room := { frames := 1, cells := 0, slots := 0, locals := 21 }
def f_M_askingDevice_2 (post : Int32 → SS → Prop) : Nat → SS → Int32 → Prop
  | 0, _, _ => False
  | n + 1, σ, x1 => br (3 ≤ x1) (post 0 σ) (vp_in x1 3 ∧ br (x1 = 0) (f_D_asks_4 (fun r_3 σ_2 => br (r_3 = 0) (nm (x1 + 1) fun x1_4 => f_M_askingDevice_2 post n σ_2 x1_4) (post (8 + x1) σ_2)) σ (σ.1 3)) (br (x1 = 1) (f_D_asks_6 (fun r_7 σ_6 => br (r_7 = 0) (nm (x1 + 1) fun x1_8 => f_M_askingDevice_2 post n σ_6 x1_8) (post (8 + x1) σ_6)) σ (σ.1 3)) (f_D_asks_8 (fun r_11 σ_10 => br (r_11 = 0) (nm (x1 + 1) fun x1_12 => f_M_askingDevice_2 post n σ_10 x1_12) (post (8 + x1) σ_10)) σ (σ.1 3))))
def f_M_askingDevice (post : Int32 → SS → Prop) (σ : SS) : Prop := ∃ n9, f_M_askingDevice_2 post n9 σ 0
section
variable {p : Program} {l : Launch} {e : Env} {s : State} {m : MethodId} {args : Array Value} {below : List Frame} {meth : Method} {c : Code} {Q : State → Prop} {D : va_G} {cA : Nat → ClassId} {a : Nat → Nat} {ad : Nat → Nat → Nat} {A : Nat → Prop}
set_option maxHeartbeats 4000000 in
set_option maxRecDepth 100000 in
theorem c_M_askingDevice_2 (fx : CallFix p m c b_M_askingDevice 2 s args GW RNM) {post : Int32 → SS → Prop} (HR : RetI p l e r_M_askingDevice s m args below meth c Q D vcl (tyl cA) (wC cA a) (XC ad) A b_M_askingDevice .int post) : ∀ (n : Nat) {σ : SS} {x1 : Int32} {H : Heap} {locs : List Loc} {ls : Array Slot}, f_M_askingDevice_2 post n σ x1 → CX D vcl (tyl cA) (wC cA a σ) (XC ad) A s H locs → lv_has ls 2 [(0, .ref (a 1)), (1, .int x1)] → W p l e r_M_askingDevice s m args below meth c H locs 0 0 Q (F0 m 2 ls []) := by
  have hx := fx.1
  have hb := fx.2.1
  intro n
  induction n with
  | zero => intro σ x1 H locs ls h; exact h.elim
  | succ n ih =>
    intro σ x1 H locs ls h hw hl
    have K2 := @ih
    unfold f_M_askingDevice_2 at h
    refine lv_iload_n (pc := 2) hx hb d_M_askingDevice_2 rfl (lv_at hl 1 rfl) ?_
    refine lv_aload_n (pc := 3) hx hb d_M_askingDevice_3 rfl (lv_at hl 0 rfl) ?_
    refine gC_1_devices (pc := 4) fx hw kw_128 d_M_askingDevice_4 ?_
    refine anC_9 (pc := 7) fx hw d_M_askingDevice_7 ?_
    refine lv_icmp_ge (pc := 8) (tgt := 38) hx hb d_M_askingDevice_8 (by decide) (fun c9 => ?_) (fun c9 => ?_)
    · replace h := h.1 c9
      refine lv_iconst (pc := 38) (v := 0) hx hb d_M_askingDevice_38 (by decide) ?_
      exact HR rfl d_M_askingDevice_39 h hw
    · replace h := h.2 c9
      refine lv_aload_n (pc := 11) hx hb d_M_askingDevice_11 rfl (lv_at hl 0 rfl) ?_
      refine gC_1_devices (pc := 12) fx hw kw_128 d_M_askingDevice_12 ?_
      refine lv_iload_n (pc := 15) hx hb d_M_askingDevice_15 rfl (lv_at hl 1 rfl) ?_
      have v9 := h.1
      replace h := h.2
      by_cases cd_1 : x1 = 0
      · replace h := h.1 cd_1
        refine aaC_9_0 (pc := 16) fx hw cd_1 d_M_askingDevice_16 ?_
        refine lv_aload_n (pc := 17) hx hb d_M_askingDevice_17 rfl (lv_at hl 0 rfl) ?_
        refine gC_1_mask (pc := 18) fx hw kw_132 d_M_askingDevice_18 ?_
        refine rsI (pc := 21) hw (rnU (pc := 21) xtC fx hw (c_D_asks_4 h _) cw_M_113_E (decl_c fx kw_825 kw_830) (rcC_4 hw) rfl ⟨Nat.le_of_ble_eq_true rfl, Nat.le_of_ble_eq_true rfl⟩ hl.1 (Nat.le_of_ble_eq_true rfl) d_M_askingDevice_21 ⟨Nat.zero_le _, Nat.zero_le _⟩) (fun r_3 σ_2 H locs hw h => ?_)
        have zr_3 := h.1
        replace h := h.2
        refine lv_if_eq (pc := 24) (tgt := 32) hx hb d_M_askingDevice_24 (by decide) (fun c9 => ?_) (fun c9 => ?_)
        · replace h := h.1 c9
          obtain ⟨x1_4, e9⟩ : ∃ z : Int32, z = x1 + 1 := ⟨_, rfl⟩
          replace h := nm_u h e9
          refine lv_iinc (pc := 32) (v := x1_4) (lv' := [(1, .int x1_4), (0, .ref (a 1))]) hx hb d_M_askingDevice_32 hl (k := 1) rfl (by rw [e9]; rfl) (by decide) rfl (fun ls hl => ?_)
          clear e9
          refine lv_goto (pc := 35) (tgt := 2) hx hb d_M_askingDevice_35 (by decide) ?_
          exact K2 h hw (lv_sub hl [1, 0] rfl)
        · replace h := h.2 c9
          refine lv_bipush (pc := 27) (v := 8) hx hb d_M_askingDevice_27 (by decide) ?_
          refine lv_iload_n (pc := 29) hx hb d_M_askingDevice_29 rfl (lv_at hl 1 rfl) ?_
          refine lv_iadd (pc := 30) hx hb d_M_askingDevice_30 ?_
          exact HR rfl d_M_askingDevice_31 h hw
      replace h := h.2 cd_1
      by_cases cd_5 : x1 = 1
      · replace h := h.1 cd_5
        refine aaC_9_1 (pc := 16) fx hw cd_5 d_M_askingDevice_16 ?_
        refine lv_aload_n (pc := 17) hx hb d_M_askingDevice_17 rfl (lv_at hl 0 rfl) ?_
        refine gC_1_mask (pc := 18) fx hw kw_132 d_M_askingDevice_18 ?_
        refine rsI (pc := 21) hw (rnU (pc := 21) xtC fx hw (c_D_asks_6 h _) cw_M_113_P (decl_c fx kw_825 kw_830) (rcC_6 hw) rfl ⟨Nat.le_of_ble_eq_true rfl, Nat.le_of_ble_eq_true rfl⟩ hl.1 (Nat.le_of_ble_eq_true rfl) d_M_askingDevice_21 ⟨Nat.zero_le _, Nat.zero_le _⟩) (fun r_7 σ_6 H locs hw h => ?_)
        have zr_7 := h.1
        replace h := h.2
        refine lv_if_eq (pc := 24) (tgt := 32) hx hb d_M_askingDevice_24 (by decide) (fun c9 => ?_) (fun c9 => ?_)
        · replace h := h.1 c9
          obtain ⟨x1_8, e9⟩ : ∃ z : Int32, z = x1 + 1 := ⟨_, rfl⟩
          replace h := nm_u h e9
          refine lv_iinc (pc := 32) (v := x1_8) (lv' := [(1, .int x1_8), (0, .ref (a 1))]) hx hb d_M_askingDevice_32 hl (k := 1) rfl (by rw [e9]; rfl) (by decide) rfl (fun ls hl => ?_)
          clear e9
          refine lv_goto (pc := 35) (tgt := 2) hx hb d_M_askingDevice_35 (by decide) ?_
          exact K2 h hw (lv_sub hl [1, 0] rfl)
        · replace h := h.2 c9
          refine lv_bipush (pc := 27) (v := 8) hx hb d_M_askingDevice_27 (by decide) ?_
          refine lv_iload_n (pc := 29) hx hb d_M_askingDevice_29 rfl (lv_at hl 1 rfl) ?_
          refine lv_iadd (pc := 30) hx hb d_M_askingDevice_30 ?_
          exact HR rfl d_M_askingDevice_31 h hw
      replace h := h.2 cd_5
      have cd_9 := dv_2 v9 cd_1 cd_5
      refine aaC_9_2 (pc := 16) fx hw cd_9 d_M_askingDevice_16 ?_
      refine lv_aload_n (pc := 17) hx hb d_M_askingDevice_17 rfl (lv_at hl 0 rfl) ?_
      refine gC_1_mask (pc := 18) fx hw kw_132 d_M_askingDevice_18 ?_
      refine rsI (pc := 21) hw (rnU (pc := 21) xtC fx hw (c_D_asks_8 h _) cw_M_113_K (decl_c fx kw_825 kw_830) (rcC_8 hw) rfl ⟨Nat.le_of_ble_eq_true rfl, Nat.le_of_ble_eq_true rfl⟩ hl.1 (Nat.le_of_ble_eq_true rfl) d_M_askingDevice_21 ⟨Nat.zero_le _, Nat.zero_le _⟩) (fun r_11 σ_10 H locs hw h => ?_)
      have zr_11 := h.1
      replace h := h.2
      refine lv_if_eq (pc := 24) (tgt := 32) hx hb d_M_askingDevice_24 (by decide) (fun c9 => ?_) (fun c9 => ?_)
      · replace h := h.1 c9
        obtain ⟨x1_12, e9⟩ : ∃ z : Int32, z = x1 + 1 := ⟨_, rfl⟩
        replace h := nm_u h e9
        refine lv_iinc (pc := 32) (v := x1_12) (lv' := [(1, .int x1_12), (0, .ref (a 1))]) hx hb d_M_askingDevice_32 hl (k := 1) rfl (by rw [e9]; rfl) (by decide) rfl (fun ls hl => ?_)
        clear e9
        refine lv_goto (pc := 35) (tgt := 2) hx hb d_M_askingDevice_35 (by decide) ?_
        exact K2 h hw (lv_sub hl [1, 0] rfl)
      · replace h := h.2 c9
        refine lv_bipush (pc := 27) (v := 8) hx hb d_M_askingDevice_27 (by decide) ?_
        refine lv_iload_n (pc := 29) hx hb d_M_askingDevice_29 rfl (lv_at hl 1 rfl) ?_
        refine lv_iadd (pc := 30) hx hb d_M_askingDevice_30 ?_
        exact HR rfl d_M_askingDevice_31 h hw
set_option maxHeartbeats 4000000 in
set_option maxRecDepth 100000 in
theorem e_M_askingDevice (fx : CallFix p m c b_M_askingDevice 2 s args GW RNM) {post : Int32 → SS → Prop} (HR : RetI p l e r_M_askingDevice s m args below meth c Q D vcl (tyl cA) (wC cA a) (XC ad) A b_M_askingDevice .int post) {σ : SS} {H : Heap} {locs : List Loc} {ls : Array Slot} (h : f_M_askingDevice post σ) (hw : CX D vcl (tyl cA) (wC cA a σ) (XC ad) A s H locs) (hl : lv_has ls 2 [(0, .ref (a 1))]) : W p l e r_M_askingDevice s m args below meth c H locs 0 0 Q (F0 m 0 ls []) := by
  have hx := fx.1
  have hb := fx.2.1
  unfold f_M_askingDevice at h
  refine lv_iconst (pc := 0) (v := 0) hx hb d_M_askingDevice_0 (by decide) ?_
  refine lv_istore_n (pc := 1) (lv' := [(1, .int 0), (0, .ref (a 1))]) hx hb d_M_askingDevice_1 rfl hl (by decide) rfl (fun ls hl => ?_)
  obtain ⟨n9, h⟩ := h
  exact c_M_askingDevice_2  fx HR n9 h hw (lv_sub hl [1, 0] rfl)
end
theorem c_M_askingDevice {l : Launch} {D : va_G} {cA : Nat → ClassId} {a : Nat → Nat} {ad : Nat → Nat → Nat} {σ : SS} {post : Int32 → SS → Prop} (h : f_M_askingDevice post σ) : mI l y_M_askingDevice b_M_askingDevice 2 (some .int) 1 21 D vcl (tyl cA) (wC cA a) (XC ad) σ [.ref (a 1)] post := met_I (by decide) (Nat.le_of_ble_eq_true rfl) (fun p e s m args below meth c A Q fx HR H ls hw hl => e_M_askingDevice  fx HR h hw hl)
abbrev r_M_stopDevices : Room := { frames := 1, cells := 0, slots := 0, locals := 20 }
def f_M_stopDevices_2 (post : SS → Prop) : Nat → SS → Int32 → Prop
  | 0, _, _ => False
  | n + 1, σ, x1 => br (3 ≤ x1) (nm (sI σ 3 0) fun σ_1 => post σ_1) (vp_in x1 3 ∧ br (x1 = 0) (f_D_stop_4 (fun σ_3 => nm (x1 + 1) fun x1_5 => f_M_stopDevices_2 post n σ_3 x1_5) σ) (br (x1 = 1) (f_D_stop_6 (fun σ_7 => nm (x1 + 1) fun x1_9 => f_M_stopDevices_2 post n σ_7 x1_9) σ) (f_D_stop_8 (fun σ_11 => nm (x1 + 1) fun x1_13 => f_M_stopDevices_2 post n σ_11 x1_13) σ)))
def f_M_stopDevices (post : SS → Prop) (σ : SS) : Prop := ∃ n9, f_M_stopDevices_2 post n9 σ 0
section
variable {p : Program} {l : Launch} {e : Env} {s : State} {m : MethodId} {args : Array Value} {below : List Frame} {meth : Method} {c : Code} {Q : State → Prop} {D : va_G} {cA : Nat → ClassId} {a : Nat → Nat} {ad : Nat → Nat → Nat} {A : Nat → Prop}
set_option maxHeartbeats 4000000 in
set_option maxRecDepth 100000 in
theorem c_M_stopDevices_2 (fx : CallFix p m c b_M_stopDevices 2 s args GW RNM) {post : SS → Prop} (HR : RetV p l e r_M_stopDevices s m args below meth c Q D vcl (tyl cA) (wC cA a) (XC ad) A b_M_stopDevices post) : ∀ (n : Nat) {σ : SS} {x1 : Int32} {H : Heap} {locs : List Loc} {ls : Array Slot}, f_M_stopDevices_2 post n σ x1 → CX D vcl (tyl cA) (wC cA a σ) (XC ad) A s H locs → lv_has ls 2 [(0, .ref (a 1)), (1, .int x1)] → W p l e r_M_stopDevices s m args below meth c H locs 0 0 Q (F0 m 2 ls []) := by
  have hx := fx.1
  have hb := fx.2.1
  intro n
  induction n with
  | zero => intro σ x1 H locs ls h; exact h.elim
  | succ n ih =>
    intro σ x1 H locs ls h hw hl
    have K2 := @ih
    unfold f_M_stopDevices_2 at h
    refine lv_iload_n (pc := 2) hx hb d_M_stopDevices_2 rfl (lv_at hl 1 rfl) ?_
    refine lv_aload_n (pc := 3) hx hb d_M_stopDevices_3 rfl (lv_at hl 0 rfl) ?_
    refine gC_1_devices (pc := 4) fx hw kw_128 d_M_stopDevices_4 ?_
    refine anC_9 (pc := 7) fx hw d_M_stopDevices_7 ?_
    refine lv_icmp_ge (pc := 8) (tgt := 26) hx hb d_M_stopDevices_8 (by decide) (fun c9 => ?_) (fun c9 => ?_)
    · replace h := h.1 c9
      refine lv_aload_n (pc := 26) hx hb d_M_stopDevices_26 rfl (lv_at hl 0 rfl) ?_
      refine lv_iconst (pc := 27) (v := 0) hx hb d_M_stopDevices_27 (by decide) ?_
      refine pC_1_mask (pc := 28) fx hw kw_132 d_M_stopDevices_28 (fun σ_1 e9 H locs hw => ?_)
      replace h := nm_u h e9
      clear e9
      exact HR d_M_stopDevices_31 h hw
    · replace h := h.2 c9
      refine lv_aload_n (pc := 11) hx hb d_M_stopDevices_11 rfl (lv_at hl 0 rfl) ?_
      refine gC_1_devices (pc := 12) fx hw kw_128 d_M_stopDevices_12 ?_
      refine lv_iload_n (pc := 15) hx hb d_M_stopDevices_15 rfl (lv_at hl 1 rfl) ?_
      have v9 := h.1
      replace h := h.2
      by_cases cd_2 : x1 = 0
      · replace h := h.1 cd_2
        refine aaC_9_0 (pc := 16) fx hw cd_2 d_M_stopDevices_16 ?_
        refine rsV (pc := 17) hw (rnU (pc := 17) xtC fx hw (c_D_stop_4 h _) cw_M_184_E (decl_c fx kw_328 kw_333) (rcC_4 hw) rfl ⟨Nat.le_of_ble_eq_true rfl, Nat.le_of_ble_eq_true rfl⟩ hl.1 (Nat.le_of_ble_eq_true rfl) d_M_stopDevices_17 ⟨Nat.zero_le _, Nat.zero_le _⟩) (fun σ_3 H locs hw h => ?_)
        obtain ⟨x1_5, e9⟩ : ∃ z : Int32, z = x1 + 1 := ⟨_, rfl⟩
        replace h := nm_u h e9
        refine lv_iinc (pc := 20) (v := x1_5) (lv' := [(1, .int x1_5), (0, .ref (a 1))]) hx hb d_M_stopDevices_20 hl (k := 1) rfl (by rw [e9]; rfl) (by decide) rfl (fun ls hl => ?_)
        clear e9
        refine lv_goto (pc := 23) (tgt := 2) hx hb d_M_stopDevices_23 (by decide) ?_
        exact K2 h hw (lv_sub hl [1, 0] rfl)
      replace h := h.2 cd_2
      by_cases cd_6 : x1 = 1
      · replace h := h.1 cd_6
        refine aaC_9_1 (pc := 16) fx hw cd_6 d_M_stopDevices_16 ?_
        refine rsV (pc := 17) hw (rnU (pc := 17) xtC fx hw (c_D_stop_6 h _) cw_M_184_P (decl_c fx kw_328 kw_333) (rcC_6 hw) rfl ⟨Nat.le_of_ble_eq_true rfl, Nat.le_of_ble_eq_true rfl⟩ hl.1 (Nat.le_of_ble_eq_true rfl) d_M_stopDevices_17 ⟨Nat.zero_le _, Nat.zero_le _⟩) (fun σ_7 H locs hw h => ?_)
        obtain ⟨x1_9, e9⟩ : ∃ z : Int32, z = x1 + 1 := ⟨_, rfl⟩
        replace h := nm_u h e9
        refine lv_iinc (pc := 20) (v := x1_9) (lv' := [(1, .int x1_9), (0, .ref (a 1))]) hx hb d_M_stopDevices_20 hl (k := 1) rfl (by rw [e9]; rfl) (by decide) rfl (fun ls hl => ?_)
        clear e9
        refine lv_goto (pc := 23) (tgt := 2) hx hb d_M_stopDevices_23 (by decide) ?_
        exact K2 h hw (lv_sub hl [1, 0] rfl)
      replace h := h.2 cd_6
      have cd_10 := dv_2 v9 cd_2 cd_6
      refine aaC_9_2 (pc := 16) fx hw cd_10 d_M_stopDevices_16 ?_
      refine rsV (pc := 17) hw (rnU (pc := 17) xtC fx hw (c_D_stop_8 h _) cw_M_184_K (decl_c fx kw_328 kw_333) (rcC_8 hw) rfl ⟨Nat.le_of_ble_eq_true rfl, Nat.le_of_ble_eq_true rfl⟩ hl.1 (Nat.le_of_ble_eq_true rfl) d_M_stopDevices_17 ⟨Nat.zero_le _, Nat.zero_le _⟩) (fun σ_11 H locs hw h => ?_)
      obtain ⟨x1_13, e9⟩ : ∃ z : Int32, z = x1 + 1 := ⟨_, rfl⟩
      replace h := nm_u h e9
      refine lv_iinc (pc := 20) (v := x1_13) (lv' := [(1, .int x1_13), (0, .ref (a 1))]) hx hb d_M_stopDevices_20 hl (k := 1) rfl (by rw [e9]; rfl) (by decide) rfl (fun ls hl => ?_)
      clear e9
      refine lv_goto (pc := 23) (tgt := 2) hx hb d_M_stopDevices_23 (by decide) ?_
      exact K2 h hw (lv_sub hl [1, 0] rfl)
set_option maxHeartbeats 4000000 in
set_option maxRecDepth 100000 in
theorem e_M_stopDevices (fx : CallFix p m c b_M_stopDevices 2 s args GW RNM) {post : SS → Prop} (HR : RetV p l e r_M_stopDevices s m args below meth c Q D vcl (tyl cA) (wC cA a) (XC ad) A b_M_stopDevices post) {σ : SS} {H : Heap} {locs : List Loc} {ls : Array Slot} (h : f_M_stopDevices post σ) (hw : CX D vcl (tyl cA) (wC cA a σ) (XC ad) A s H locs) (hl : lv_has ls 2 [(0, .ref (a 1))]) : W p l e r_M_stopDevices s m args below meth c H locs 0 0 Q (F0 m 0 ls []) := by
  have hx := fx.1
  have hb := fx.2.1
  unfold f_M_stopDevices at h
  refine lv_iconst (pc := 0) (v := 0) hx hb d_M_stopDevices_0 (by decide) ?_
  refine lv_istore_n (pc := 1) (lv' := [(1, .int 0), (0, .ref (a 1))]) hx hb d_M_stopDevices_1 rfl hl (by decide) rfl (fun ls hl => ?_)
  obtain ⟨n9, h⟩ := h
  exact c_M_stopDevices_2  fx HR n9 h hw (lv_sub hl [1, 0] rfl)
end
theorem c_M_stopDevices {l : Launch} {D : va_G} {cA : Nat → ClassId} {a : Nat → Nat} {ad : Nat → Nat → Nat} {σ : SS} {post : SS → Prop} (h : f_M_stopDevices post σ) : mV l y_M_stopDevices b_M_stopDevices 2 none 1 20 D vcl (tyl cA) (wC cA a) (XC ad) σ [.ref (a 1)] post := met_V (by decide) (Nat.le_of_ble_eq_true rfl) (fun p e s m args below meth c A Q fx HR H ls hw hl => e_M_stopDevices  fx HR h hw hl)
abbrev r_M_machinePasses : Room := { frames := 0, cells := 0, slots := 0, locals := 0 }
def f_M_machinePasses (post : Int32 → SS → Prop) (σ : SS) (x1 : Int32) : Prop := br (x1 = (0 : Int32)) (bz (σ.1 4) ∧ post (σ.1 4) σ) (br (x1 = (1 : Int32)) (br ((σ.1 4) = 0) (post 1 σ) (post 0 σ)) (br (x1 = (2 : Int32)) (post 0 σ) (post 1 σ)))
section
variable {p : Program} {l : Launch} {e : Env} {s : State} {m : MethodId} {args : Array Value} {below : List Frame} {meth : Method} {c : Code} {Q : State → Prop} {D : va_G} {cA : Nat → ClassId} {a : Nat → Nat} {ad : Nat → Nat → Nat} {A : Nat → Prop}
set_option maxHeartbeats 4000000 in
set_option maxRecDepth 100000 in
theorem e_M_machinePasses (fx : CallFix p m c b_M_machinePasses 2 s args GW RNM) {post : Int32 → SS → Prop} (HR : RetI p l e r_M_machinePasses s m args below meth c Q D vcl (tyl cA) (wC cA a) (XC ad) A b_M_machinePasses .boolean (fun r σ => bz r ∧ post r σ)) {σ : SS} {x1 : Int32} {H : Heap} {locs : List Loc} {ls : Array Slot} (h : f_M_machinePasses post σ x1) (hw : CX D vcl (tyl cA) (wC cA a σ) (XC ad) A s H locs) (hl : lv_has ls 2 [(0, .ref (a 1)), (1, .int x1)]) : W p l e r_M_machinePasses s m args below meth c H locs 0 0 Q (F0 m 0 ls []) := by
  have hx := fx.1
  have hb := fx.2.1
  unfold f_M_machinePasses at h
  refine lv_iload_n (pc := 0) hx hb d_M_machinePasses_0 rfl (lv_at hl 1 rfl) ?_
  by_cases cq_1 : x1 = (0 : Int32)
  · replace h := h.1 cq_1
    refine lv_tableIn (pc := 1) (off := 27) (tgt := 28) hx hb d_M_machinePasses_1 (by rw [cq_1]; decide) (by rw [cq_1]; decide) (by rw [cq_1]; rfl) (by decide) ?_
    refine lv_aload_n (pc := 28) hx hb d_M_machinePasses_28 rfl (lv_at hl 0 rfl) ?_
    refine gC_1_ion (pc := 29) fx hw kw_133 d_M_machinePasses_29 ?_
    exact HR (bz_n h.1) d_M_machinePasses_32 h hw
  replace h := h.2 cq_1
  by_cases cq_2 : x1 = (1 : Int32)
  · replace h := h.1 cq_2
    refine lv_tableIn (pc := 1) (off := 32) (tgt := 33) hx hb d_M_machinePasses_1 (by rw [cq_2]; decide) (by rw [cq_2]; decide) (by rw [cq_2]; rfl) (by decide) ?_
    refine lv_aload_n (pc := 33) hx hb d_M_machinePasses_33 rfl (lv_at hl 0 rfl) ?_
    refine gC_1_ion (pc := 34) fx hw kw_133 d_M_machinePasses_34 ?_
    refine lv_if_ne (pc := 37) (tgt := 44) hx hb d_M_machinePasses_37 (by decide) (fun c9 => ?_) (fun c9 => ?_)
    · replace h := h.2 c9
      refine lv_iconst (pc := 44) (v := 0) hx hb d_M_machinePasses_44 (by decide) ?_
      exact HR (bz_n bz_0) d_M_machinePasses_45 ⟨bz_0, h⟩ hw
    · replace h := h.1 c9
      refine lv_iconst (pc := 40) (v := 1) hx hb d_M_machinePasses_40 (by decide) ?_
      refine lv_goto (pc := 41) (tgt := 45) hx hb d_M_machinePasses_41 (by decide) ?_
      exact HR (bz_n bz_1) d_M_machinePasses_45 ⟨bz_1, h⟩ hw
  replace h := h.2 cq_2
  by_cases cq_3 : x1 = (2 : Int32)
  · replace h := h.1 cq_3
    refine lv_tableIn (pc := 1) (off := 45) (tgt := 46) hx hb d_M_machinePasses_1 (by rw [cq_3]; decide) (by rw [cq_3]; decide) (by rw [cq_3]; rfl) (by decide) ?_
    refine lv_iconst (pc := 46) (v := 0) hx hb d_M_machinePasses_46 (by decide) ?_
    exact HR (bz_n bz_0) d_M_machinePasses_47 ⟨bz_0, h⟩ hw
  replace h := h.2 cq_3
  refine lv_tableOut (pc := 1) (tgt := 48) hx hb d_M_machinePasses_1 (by have := lv_neT cq_1 (a := 0) (by decide); have := lv_neT cq_2 (a := 1) (by decide); have := lv_neT cq_3 (a := 2) (by decide); omega) (by decide) ?_
  refine lv_iconst (pc := 48) (v := 1) hx hb d_M_machinePasses_48 (by decide) ?_
  exact HR (bz_n bz_1) d_M_machinePasses_49 ⟨bz_1, h⟩ hw
end
theorem c_M_machinePasses {l : Launch} {D : va_G} {cA : Nat → ClassId} {a : Nat → Nat} {ad : Nat → Nat → Nat} {σ : SS} {post : Int32 → SS → Prop} {x1 : Int32} (h : f_M_machinePasses post σ x1) : mI l y_M_machinePasses b_M_machinePasses 2 (some .boolean) 0 0 D vcl (tyl cA) (wC cA a) (XC ad) σ [.ref (a 1), .int x1] (fun r σ => bz r ∧ post r σ) := met_I (by decide) (Nat.le_of_ble_eq_true rfl) (fun p e s m args below meth c A Q fx HR H ls hw hl => e_M_machinePasses  fx HR h hw hl)
abbrev r_M_operateMachine : Room := { frames := 2, cells := 0, slots := 0, locals := 42 }
def f_M_operateMachine_107 (post : Int32 → SS → Prop) (σ : SS) (x3 : Int32) : Prop := br (x3 = 1) (nm (sI σ 4 1) fun σ_2 => post 0 σ_2) (br (x3 = 2) (nm (sI σ 4 0) fun σ_1 => post 0 σ_1) (post 0 σ))
def f_M_operateMachine (post : Int32 → SS → Prop) (σ : SS) (x1 : Int32) (x2 : Int32) (x3 : Int32) : Prop := br (x2 = (1 : Int32)) (vp_in x1 4 ∧ nm (sA σ 3 x1.toNatClampNeg (σ.1 2)) fun σ_4 => f_M_operateMachine_107 post σ_4 x3) (br (x2 = (2 : Int32)) (f_M_operateMachine_107 post σ x3) (br (x2 = (3 : Int32)) (f_M_askingDevice (fun r_8 σ_7 => vp_in x1 4 ∧ nm (sA σ_7 3 x1.toNatClampNeg r_8) fun σ_9 => f_M_operateMachine_107 post σ_9 x3) σ) (br (x2 = (4 : Int32)) (vp_in x1 4 ∧ nm (sI σ 3 ((σ.2.1 3 x1.toNatClampNeg) &&& 7)) fun σ_11 => f_M_operateMachine_107 post σ_11 x3) (br (x2 = (5 : Int32)) (f_M_stopDevices (fun σ_13 => f_M_operateMachine_107 post σ_13 x3) σ) (br (x2 = (6 : Int32)) (nm (sI σ 8 1) fun σ_16 => f_M_operateMachine_107 post σ_16 x3) (br (x2 = (7 : Int32)) (f_M_machinePasses (fun r_19 σ_18 => post r_19 σ_18) σ x3) (f_M_operateMachine_107 post σ x3)))))))
section
variable {p : Program} {l : Launch} {e : Env} {s : State} {m : MethodId} {args : Array Value} {below : List Frame} {meth : Method} {c : Code} {Q : State → Prop} {D : va_G} {cA : Nat → ClassId} {a : Nat → Nat} {ad : Nat → Nat → Nat} {A : Nat → Prop}
set_option maxHeartbeats 4000000 in
set_option maxRecDepth 100000 in
theorem c_M_operateMachine_107 (fx : CallFix p m c b_M_operateMachine 4 s args GW RNM) {post : Int32 → SS → Prop} (HR : RetI p l e r_M_operateMachine s m args below meth c Q D vcl (tyl cA) (wC cA a) (XC ad) A b_M_operateMachine .boolean (fun r σ => bz r ∧ post r σ)) {σ : SS} {x3 : Int32} {H : Heap} {locs : List Loc} {ls : Array Slot} (h : f_M_operateMachine_107 post σ x3) (hw : CX D vcl (tyl cA) (wC cA a σ) (XC ad) A s H locs) (hl : lv_has ls 4 [(0, .ref (a 1)), (3, .int x3)]) : W p l e r_M_operateMachine s m args below meth c H locs 0 0 Q (F0 m 107 ls []) := by
  have hx := fx.1
  have hb := fx.2.1
  unfold f_M_operateMachine_107 at h
  refine lv_iload_n (pc := 107) hx hb d_M_operateMachine_107 rfl (lv_at hl 1 rfl) ?_
  refine lv_iconst (pc := 108) (v := 1) hx hb d_M_operateMachine_108 (by decide) ?_
  refine lv_icmp_ne (pc := 109) (tgt := 120) hx hb d_M_operateMachine_109 (by decide) (fun c9 => ?_) (fun c9 => ?_)
  · replace h := h.2 c9
    refine lv_iload_n (pc := 120) hx hb d_M_operateMachine_120 rfl (lv_at hl 1 rfl) ?_
    refine lv_iconst (pc := 121) (v := 2) hx hb d_M_operateMachine_121 (by decide) ?_
    refine lv_icmp_ne (pc := 122) (tgt := 130) hx hb d_M_operateMachine_122 (by decide) (fun c9 => ?_) (fun c9 => ?_)
    · replace h := h.2 c9
      refine lv_iconst (pc := 130) (v := 0) hx hb d_M_operateMachine_130 (by decide) ?_
      exact HR (bz_n bz_0) d_M_operateMachine_131 ⟨bz_0, h⟩ hw
    · replace h := h.1 c9
      refine lv_aload_n (pc := 125) hx hb d_M_operateMachine_125 rfl (lv_at hl 0 rfl) ?_
      refine lv_iconst (pc := 126) (v := 0) hx hb d_M_operateMachine_126 (by decide) ?_
      refine pC_1_ion (pc := 127) fx hw kw_133 bz_0 d_M_operateMachine_127 (fun σ_1 e9 H locs hw => ?_)
      replace h := nm_u h e9
      clear e9
      refine lv_iconst (pc := 130) (v := 0) hx hb d_M_operateMachine_130 (by decide) ?_
      exact HR (bz_n bz_0) d_M_operateMachine_131 ⟨bz_0, h⟩ hw
  · replace h := h.1 c9
    refine lv_aload_n (pc := 112) hx hb d_M_operateMachine_112 rfl (lv_at hl 0 rfl) ?_
    refine lv_iconst (pc := 113) (v := 1) hx hb d_M_operateMachine_113 (by decide) ?_
    refine pC_1_ion (pc := 114) fx hw kw_133 bz_1 d_M_operateMachine_114 (fun σ_2 e9 H locs hw => ?_)
    replace h := nm_u h e9
    clear e9
    refine lv_goto (pc := 117) (tgt := 130) hx hb d_M_operateMachine_117 (by decide) ?_
    refine lv_iconst (pc := 130) (v := 0) hx hb d_M_operateMachine_130 (by decide) ?_
    exact HR (bz_n bz_0) d_M_operateMachine_131 ⟨bz_0, h⟩ hw
set_option maxHeartbeats 4000000 in
set_option maxRecDepth 100000 in
theorem e_M_operateMachine (fx : CallFix p m c b_M_operateMachine 4 s args GW RNM) {post : Int32 → SS → Prop} (HR : RetI p l e r_M_operateMachine s m args below meth c Q D vcl (tyl cA) (wC cA a) (XC ad) A b_M_operateMachine .boolean (fun r σ => bz r ∧ post r σ)) {σ : SS} {x1 : Int32} {x2 : Int32} {x3 : Int32} {H : Heap} {locs : List Loc} {ls : Array Slot} (h : f_M_operateMachine post σ x1 x2 x3) (hw : CX D vcl (tyl cA) (wC cA a σ) (XC ad) A s H locs) (hl : lv_has ls 4 [(0, .ref (a 1)), (1, .int x1), (2, .int x2), (3, .int x3)]) : W p l e r_M_operateMachine s m args below meth c H locs 0 0 Q (F0 m 0 ls []) := by
  have hx := fx.1
  have hb := fx.2.1
  unfold f_M_operateMachine at h
  refine lv_iload_n (pc := 0) hx hb d_M_operateMachine_0 rfl (lv_at hl 2 rfl) ?_
  by_cases cq_3 : x2 = (1 : Int32)
  · replace h := h.1 cq_3
    refine lv_tableIn (pc := 1) (off := 43) (tgt := 44) hx hb d_M_operateMachine_1 (by rw [cq_3]; decide) (by rw [cq_3]; decide) (by rw [cq_3]; rfl) (by decide) ?_
    refine lv_aload_n (pc := 44) hx hb d_M_operateMachine_44 rfl (lv_at hl 0 rfl) ?_
    refine gC_1_accumulators (pc := 45) fx hw kw_123 d_M_operateMachine_45 ?_
    refine lv_iload_n (pc := 48) hx hb d_M_operateMachine_48 rfl (lv_at hl 1 rfl) ?_
    refine lv_aload_n (pc := 49) hx hb d_M_operateMachine_49 rfl (lv_at hl 0 rfl) ?_
    refine gC_1_switches (pc := 50) fx hw kw_131 d_M_operateMachine_50 ?_
    refine asC_3 (pc := 53) fx hw h.1 d_M_operateMachine_53 (fun σ_4 e9 H locs hw => ?_)
    replace h := nm_u h.2 e9
    clear e9
    refine lv_goto (pc := 54) (tgt := 107) hx hb d_M_operateMachine_54 (by decide) ?_
    exact c_M_operateMachine_107  fx HR h hw (lv_sub hl [0, 3] rfl)
  replace h := h.2 cq_3
  by_cases cq_5 : x2 = (2 : Int32)
  · replace h := h.1 cq_5
    refine lv_tableIn (pc := 1) (off := 106) (tgt := 107) hx hb d_M_operateMachine_1 (by rw [cq_5]; decide) (by rw [cq_5]; decide) (by rw [cq_5]; rfl) (by decide) ?_
    exact c_M_operateMachine_107  fx HR h hw (lv_sub hl [0, 3] rfl)
  replace h := h.2 cq_5
  by_cases cq_6 : x2 = (3 : Int32)
  · replace h := h.1 cq_6
    refine lv_tableIn (pc := 1) (off := 56) (tgt := 57) hx hb d_M_operateMachine_1 (by rw [cq_6]; decide) (by rw [cq_6]; decide) (by rw [cq_6]; rfl) (by decide) ?_
    refine lv_aload_n (pc := 57) hx hb d_M_operateMachine_57 rfl (lv_at hl 0 rfl) ?_
    refine gC_1_accumulators (pc := 58) fx hw kw_123 d_M_operateMachine_58 ?_
    refine lv_iload_n (pc := 61) hx hb d_M_operateMachine_61 rfl (lv_at hl 1 rfl) ?_
    refine lv_aload_n (pc := 62) hx hb d_M_operateMachine_62 rfl (lv_at hl 0 rfl) ?_
    refine rsI (pc := 63) hw (rnV (pc := 63) xtC fx hw (c_M_askingDevice h _) cw_M_90 (rcC_1 hw) rfl ⟨Nat.le_of_ble_eq_true rfl, Nat.le_of_ble_eq_true rfl⟩ hl.1 (Nat.le_of_ble_eq_true rfl) d_M_operateMachine_63 ⟨Nat.zero_le _, Nat.zero_le _⟩) (fun r_8 σ_7 H locs hw h => ?_)
    refine asC_3 (pc := 66) fx hw h.1 d_M_operateMachine_66 (fun σ_9 e9 H locs hw => ?_)
    replace h := nm_u h.2 e9
    clear e9
    refine lv_goto (pc := 67) (tgt := 107) hx hb d_M_operateMachine_67 (by decide) ?_
    exact c_M_operateMachine_107  fx HR h hw (lv_sub hl [0, 3] rfl)
  replace h := h.2 cq_6
  by_cases cq_10 : x2 = (4 : Int32)
  · replace h := h.1 cq_10
    refine lv_tableIn (pc := 1) (off := 69) (tgt := 70) hx hb d_M_operateMachine_1 (by rw [cq_10]; decide) (by rw [cq_10]; decide) (by rw [cq_10]; rfl) (by decide) ?_
    refine lv_aload_n (pc := 70) hx hb d_M_operateMachine_70 rfl (lv_at hl 0 rfl) ?_
    refine lv_aload_n (pc := 71) hx hb d_M_operateMachine_71 rfl (lv_at hl 0 rfl) ?_
    refine gC_1_accumulators (pc := 72) fx hw kw_123 d_M_operateMachine_72 ?_
    refine lv_iload_n (pc := 75) hx hb d_M_operateMachine_75 rfl (lv_at hl 1 rfl) ?_
    refine alC_3 (pc := 76) fx hw h.1 d_M_operateMachine_76 ?_
    replace h := h.2
    refine lv_bipush (pc := 77) (v := 7) hx hb d_M_operateMachine_77 (by decide) ?_
    refine lv_iand (pc := 79) hx hb d_M_operateMachine_79 ?_
    refine pC_1_mask (pc := 80) fx hw kw_132 d_M_operateMachine_80 (fun σ_11 e9 H locs hw => ?_)
    replace h := nm_u h e9
    clear e9
    refine lv_goto (pc := 83) (tgt := 107) hx hb d_M_operateMachine_83 (by decide) ?_
    exact c_M_operateMachine_107  fx HR h hw (lv_sub hl [0, 3] rfl)
  replace h := h.2 cq_10
  by_cases cq_12 : x2 = (5 : Int32)
  · replace h := h.1 cq_12
    refine lv_tableIn (pc := 1) (off := 85) (tgt := 86) hx hb d_M_operateMachine_1 (by rw [cq_12]; decide) (by rw [cq_12]; decide) (by rw [cq_12]; rfl) (by decide) ?_
    refine lv_aload_n (pc := 86) hx hb d_M_operateMachine_86 rfl (lv_at hl 0 rfl) ?_
    refine rsV (pc := 87) hw (rnV (pc := 87) xtC fx hw (c_M_stopDevices h _) cw_M_187 (rcC_1 hw) rfl ⟨Nat.le_of_ble_eq_true rfl, Nat.le_of_ble_eq_true rfl⟩ hl.1 (Nat.le_of_ble_eq_true rfl) d_M_operateMachine_87 ⟨Nat.zero_le _, Nat.zero_le _⟩) (fun σ_13 H locs hw h => ?_)
    refine lv_goto (pc := 90) (tgt := 107) hx hb d_M_operateMachine_90 (by decide) ?_
    exact c_M_operateMachine_107  fx HR h hw (lv_sub hl [0, 3] rfl)
  replace h := h.2 cq_12
  by_cases cq_15 : x2 = (6 : Int32)
  · replace h := h.1 cq_15
    refine lv_tableIn (pc := 1) (off := 92) (tgt := 93) hx hb d_M_operateMachine_1 (by rw [cq_15]; decide) (by rw [cq_15]; decide) (by rw [cq_15]; rfl) (by decide) ?_
    refine lv_aload_n (pc := 93) hx hb d_M_operateMachine_93 rfl (lv_at hl 0 rfl) ?_
    refine lv_iconst (pc := 94) (v := 1) hx hb d_M_operateMachine_94 (by decide) ?_
    refine pC_1_ending (pc := 95) fx hw kw_137 d_M_operateMachine_95 (fun σ_16 e9 H locs hw => ?_)
    replace h := nm_u h e9
    clear e9
    refine lv_goto (pc := 98) (tgt := 107) hx hb d_M_operateMachine_98 (by decide) ?_
    exact c_M_operateMachine_107  fx HR h hw (lv_sub hl [0, 3] rfl)
  replace h := h.2 cq_15
  by_cases cq_17 : x2 = (7 : Int32)
  · replace h := h.1 cq_17
    refine lv_tableIn (pc := 1) (off := 100) (tgt := 101) hx hb d_M_operateMachine_1 (by rw [cq_17]; decide) (by rw [cq_17]; decide) (by rw [cq_17]; rfl) (by decide) ?_
    refine lv_aload_n (pc := 101) hx hb d_M_operateMachine_101 rfl (lv_at hl 0 rfl) ?_
    refine lv_iload_n (pc := 102) hx hb d_M_operateMachine_102 rfl (lv_at hl 3 rfl) ?_
    refine rsI (pc := 103) hw (rnV (pc := 103) xtC fx hw (c_M_machinePasses h _) cw_M_190 (rcC_1 hw) rfl ⟨Nat.le_of_ble_eq_true rfl, Nat.le_of_ble_eq_true rfl⟩ hl.1 (Nat.le_of_ble_eq_true rfl) d_M_operateMachine_103 ⟨Nat.zero_le _, Nat.zero_le _⟩) (fun r_19 σ_18 H locs hw h => ?_)
    have zr_19 := h.1
    replace h := h.2
    exact HR (bz_n zr_19) d_M_operateMachine_106 ⟨zr_19, h⟩ hw
  replace h := h.2 cq_17
  refine lv_tableOut (pc := 1) (tgt := 107) hx hb d_M_operateMachine_1 (by have := lv_neT cq_3 (a := 1) (by decide); have := lv_neT cq_5 (a := 2) (by decide); have := lv_neT cq_6 (a := 3) (by decide); have := lv_neT cq_10 (a := 4) (by decide); have := lv_neT cq_12 (a := 5) (by decide); have := lv_neT cq_15 (a := 6) (by decide); have := lv_neT cq_17 (a := 7) (by decide); omega) (by decide) ?_
  exact c_M_operateMachine_107  fx HR h hw (lv_sub hl [0, 3] rfl)
end
theorem c_M_operateMachine {l : Launch} {D : va_G} {cA : Nat → ClassId} {a : Nat → Nat} {ad : Nat → Nat → Nat} {σ : SS} {post : Int32 → SS → Prop} {x1 : Int32} {x2 : Int32} {x3 : Int32} (h : f_M_operateMachine post σ x1 x2 x3) : mI l y_M_operateMachine b_M_operateMachine 4 (some .boolean) 2 42 D vcl (tyl cA) (wC cA a) (XC ad) σ [.ref (a 1), .int x1, .int x2, .int x3] (fun r σ => bz r ∧ post r σ) := met_I (by decide) (Nat.le_of_ble_eq_true rfl) (fun p e s m args below meth c A Q fx HR H ls hw hl => e_M_operateMachine  fx HR h hw hl)
abbrev r_M_operate : Room := { frames := 3, cells := 0, slots := 0, locals := 65 }
def f_M_operate_115_66 (post : Int32 → SS → Prop) (σ : SS) (x4 : Int32) : Prop := br (x4 = 1) (f_D_start_6 (fun σ_3 => post 0 σ_3) σ) (br (x4 = 2) (f_D_stop_6 (fun σ_1 => post 0 σ_1) σ) (post 0 σ))
def f_M_operate_115_68 (post : Int32 → SS → Prop) (σ : SS) (x4 : Int32) : Prop := br (x4 = 1) (f_D_start_8 (fun σ_7 => post 0 σ_7) σ) (br (x4 = 2) (f_D_stop_8 (fun σ_5 => post 0 σ_5) σ) (post 0 σ))
def f_M_operate_115_64 (post : Int32 → SS → Prop) (σ : SS) (x4 : Int32) : Prop := br (x4 = 1) (f_D_start_4 (fun σ_11 => post 0 σ_11) σ) (br (x4 = 2) (f_D_stop_4 (fun σ_9 => post 0 σ_9) σ) (post 0 σ))
def f_M_operate (post : Int32 → SS → Prop) (σ : SS) (x1 : Int32) : Prop := nm ((x1 >>> ((11 : Int32) &&& 31)) &&& 3) fun x2_13 => nm ((x1 >>> ((8 : Int32) &&& 31)) &&& 7) fun x3_14 => nm ((x1 >>> ((6 : Int32) &&& 31)) &&& 3) fun x4_15 => nm (x1 &&& 63) fun x5_16 => br (x5_16 = 63) (f_M_operateMachine (fun r_43 σ_42 => post r_43 σ_42) σ x2_13 x3_14 x4_15) (f_M_deviceAt (fun r_18 σ_17 => br (r_18 = 0) (br (x3_14 = 7) (f_D_passes_4 (fun r_25 σ_24 => post r_25 σ_24) σ_17 x4_15) (br ((x3_14 &&& 1) = 1) (f_E_input (fun r_22 σ_21 => vp_in x2_13 4 ∧ nm (sA σ_21 3 x2_13.toNatClampNeg r_22) fun σ_23 => f_M_operate_115_64 post σ_23 x4_15) σ_17 x3_14) (vp_in x2_13 4 ∧ f_D_output_4 (fun σ_19 => f_M_operate_115_64 post σ_19 x4_15) σ_17 x3_14 (σ_17.2.1 3 x2_13.toNatClampNeg)))) (br (r_18 = 1) (br (x3_14 = 7) (f_D_passes_6 (fun r_32 σ_31 => post r_32 σ_31) σ_17 x4_15) (br ((x3_14 &&& 1) = 1) (f_D_input_6 (fun r_29 σ_28 => vp_in x2_13 4 ∧ nm (sA σ_28 3 x2_13.toNatClampNeg r_29) fun σ_30 => f_M_operate_115_66 post σ_30 x4_15) σ_17 x3_14) (vp_in x2_13 4 ∧ f_P_output (fun σ_26 => f_M_operate_115_66 post σ_26 x4_15) σ_17 x3_14 (σ_17.2.1 3 x2_13.toNatClampNeg)))) (br (r_18 = 2) (br (x3_14 = 7) (f_D_passes_8 (fun r_39 σ_38 => post r_39 σ_38) σ_17 x4_15) (br ((x3_14 &&& 1) = 1) (f_D_input_8 (fun r_36 σ_35 => vp_in x2_13 4 ∧ nm (sA σ_35 3 x2_13.toNatClampNeg r_36) fun σ_37 => f_M_operate_115_68 post σ_37 x4_15) σ_17 x3_14) (vp_in x2_13 4 ∧ f_D_output_8 (fun σ_33 => f_M_operate_115_68 post σ_33 x4_15) σ_17 x3_14 (σ_17.2.1 3 x2_13.toNatClampNeg)))) (f_M_operateNothing (fun r_41 σ_40 => post r_41 σ_40) σ_17 x2_13 x3_14 x4_15)))) σ x5_16)
section
variable {p : Program} {l : Launch} {e : Env} {s : State} {m : MethodId} {args : Array Value} {below : List Frame} {meth : Method} {c : Code} {Q : State → Prop} {D : va_G} {cA : Nat → ClassId} {a : Nat → Nat} {ad : Nat → Nat → Nat} {A : Nat → Prop}
set_option maxHeartbeats 4000000 in
set_option maxRecDepth 100000 in
theorem c_M_operate_115_66 (fx : CallFix p m c b_M_operate 7 s args GW RNM) {post : Int32 → SS → Prop} (HR : RetI p l e r_M_operate s m args below meth c Q D vcl (tyl cA) (wC cA a) (XC ad) A b_M_operate .boolean (fun r σ => bz r ∧ post r σ)) {σ : SS} {x4 : Int32} {H : Heap} {locs : List Loc} {ls : Array Slot} (h : f_M_operate_115_66 post σ x4) (hw : CX D vcl (tyl cA) (wC cA a σ) (XC ad) A s H locs) (hl : lv_has ls 7 [(4, .int x4), (6, .ref (a 6))]) : W p l e r_M_operate s m args below meth c H locs 0 0 Q (F0 m 115 ls []) := by
  have hx := fx.1
  have hb := fx.2.1
  unfold f_M_operate_115_66 at h
  refine lv_iload (pc := 115) hx hb d_M_operate_115 (lv_at hl 0 rfl) ?_
  refine lv_iconst (pc := 117) (v := 1) hx hb d_M_operate_117 (by decide) ?_
  refine lv_icmp_ne (pc := 118) (tgt := 129) hx hb d_M_operate_118 (by decide) (fun c9 => ?_) (fun c9 => ?_)
  · replace h := h.2 c9
    refine lv_iload (pc := 129) hx hb d_M_operate_129 (lv_at hl 0 rfl) ?_
    refine lv_iconst (pc := 131) (v := 2) hx hb d_M_operate_131 (by decide) ?_
    refine lv_icmp_ne (pc := 132) (tgt := 140) hx hb d_M_operate_132 (by decide) (fun c9 => ?_) (fun c9 => ?_)
    · replace h := h.2 c9
      refine lv_iconst (pc := 140) (v := 0) hx hb d_M_operate_140 (by decide) ?_
      exact HR (bz_n bz_0) d_M_operate_141 ⟨bz_0, h⟩ hw
    · replace h := h.1 c9
      refine lv_aload (pc := 135) hx hb d_M_operate_135 (lv_at hl 1 rfl) ?_
      refine rsV (pc := 137) hw (rnU (pc := 137) xtC fx hw (c_D_stop_6 h _) cw_M_184_P (decl_c fx kw_328 kw_333) (rcC_6 hw) rfl ⟨Nat.le_of_ble_eq_true rfl, Nat.le_of_ble_eq_true rfl⟩ hl.1 (Nat.le_of_ble_eq_true rfl) d_M_operate_137 ⟨Nat.zero_le _, Nat.zero_le _⟩) (fun σ_1 H locs hw h => ?_)
      refine lv_iconst (pc := 140) (v := 0) hx hb d_M_operate_140 (by decide) ?_
      exact HR (bz_n bz_0) d_M_operate_141 ⟨bz_0, h⟩ hw
  · replace h := h.1 c9
    refine lv_aload (pc := 121) hx hb d_M_operate_121 (lv_at hl 1 rfl) ?_
    refine rsV (pc := 123) hw (rnU (pc := 123) xtC fx hw (c_D_start_6 h _) cw_M_181_P (decl_c fx kw_923 kw_928) (rcC_6 hw) rfl ⟨Nat.le_of_ble_eq_true rfl, Nat.le_of_ble_eq_true rfl⟩ hl.1 (Nat.le_of_ble_eq_true rfl) d_M_operate_123 ⟨Nat.zero_le _, Nat.zero_le _⟩) (fun σ_3 H locs hw h => ?_)
    refine lv_goto (pc := 126) (tgt := 140) hx hb d_M_operate_126 (by decide) ?_
    refine lv_iconst (pc := 140) (v := 0) hx hb d_M_operate_140 (by decide) ?_
    exact HR (bz_n bz_0) d_M_operate_141 ⟨bz_0, h⟩ hw
set_option maxHeartbeats 4000000 in
set_option maxRecDepth 100000 in
theorem c_M_operate_115_68 (fx : CallFix p m c b_M_operate 7 s args GW RNM) {post : Int32 → SS → Prop} (HR : RetI p l e r_M_operate s m args below meth c Q D vcl (tyl cA) (wC cA a) (XC ad) A b_M_operate .boolean (fun r σ => bz r ∧ post r σ)) {σ : SS} {x4 : Int32} {H : Heap} {locs : List Loc} {ls : Array Slot} (h : f_M_operate_115_68 post σ x4) (hw : CX D vcl (tyl cA) (wC cA a σ) (XC ad) A s H locs) (hl : lv_has ls 7 [(4, .int x4), (6, .ref (a 8))]) : W p l e r_M_operate s m args below meth c H locs 0 0 Q (F0 m 115 ls []) := by
  have hx := fx.1
  have hb := fx.2.1
  unfold f_M_operate_115_68 at h
  refine lv_iload (pc := 115) hx hb d_M_operate_115 (lv_at hl 0 rfl) ?_
  refine lv_iconst (pc := 117) (v := 1) hx hb d_M_operate_117 (by decide) ?_
  refine lv_icmp_ne (pc := 118) (tgt := 129) hx hb d_M_operate_118 (by decide) (fun c9 => ?_) (fun c9 => ?_)
  · replace h := h.2 c9
    refine lv_iload (pc := 129) hx hb d_M_operate_129 (lv_at hl 0 rfl) ?_
    refine lv_iconst (pc := 131) (v := 2) hx hb d_M_operate_131 (by decide) ?_
    refine lv_icmp_ne (pc := 132) (tgt := 140) hx hb d_M_operate_132 (by decide) (fun c9 => ?_) (fun c9 => ?_)
    · replace h := h.2 c9
      refine lv_iconst (pc := 140) (v := 0) hx hb d_M_operate_140 (by decide) ?_
      exact HR (bz_n bz_0) d_M_operate_141 ⟨bz_0, h⟩ hw
    · replace h := h.1 c9
      refine lv_aload (pc := 135) hx hb d_M_operate_135 (lv_at hl 1 rfl) ?_
      refine rsV (pc := 137) hw (rnU (pc := 137) xtC fx hw (c_D_stop_8 h _) cw_M_184_K (decl_c fx kw_328 kw_333) (rcC_8 hw) rfl ⟨Nat.le_of_ble_eq_true rfl, Nat.le_of_ble_eq_true rfl⟩ hl.1 (Nat.le_of_ble_eq_true rfl) d_M_operate_137 ⟨Nat.zero_le _, Nat.zero_le _⟩) (fun σ_5 H locs hw h => ?_)
      refine lv_iconst (pc := 140) (v := 0) hx hb d_M_operate_140 (by decide) ?_
      exact HR (bz_n bz_0) d_M_operate_141 ⟨bz_0, h⟩ hw
  · replace h := h.1 c9
    refine lv_aload (pc := 121) hx hb d_M_operate_121 (lv_at hl 1 rfl) ?_
    refine rsV (pc := 123) hw (rnU (pc := 123) xtC fx hw (c_D_start_8 h _) cw_M_181_K (decl_c fx kw_923 kw_928) (rcC_8 hw) rfl ⟨Nat.le_of_ble_eq_true rfl, Nat.le_of_ble_eq_true rfl⟩ hl.1 (Nat.le_of_ble_eq_true rfl) d_M_operate_123 ⟨Nat.zero_le _, Nat.zero_le _⟩) (fun σ_7 H locs hw h => ?_)
    refine lv_goto (pc := 126) (tgt := 140) hx hb d_M_operate_126 (by decide) ?_
    refine lv_iconst (pc := 140) (v := 0) hx hb d_M_operate_140 (by decide) ?_
    exact HR (bz_n bz_0) d_M_operate_141 ⟨bz_0, h⟩ hw
set_option maxHeartbeats 4000000 in
set_option maxRecDepth 100000 in
theorem c_M_operate_115_64 (fx : CallFix p m c b_M_operate 7 s args GW RNM) {post : Int32 → SS → Prop} (HR : RetI p l e r_M_operate s m args below meth c Q D vcl (tyl cA) (wC cA a) (XC ad) A b_M_operate .boolean (fun r σ => bz r ∧ post r σ)) {σ : SS} {x4 : Int32} {H : Heap} {locs : List Loc} {ls : Array Slot} (h : f_M_operate_115_64 post σ x4) (hw : CX D vcl (tyl cA) (wC cA a σ) (XC ad) A s H locs) (hl : lv_has ls 7 [(4, .int x4), (6, .ref (a 4))]) : W p l e r_M_operate s m args below meth c H locs 0 0 Q (F0 m 115 ls []) := by
  have hx := fx.1
  have hb := fx.2.1
  unfold f_M_operate_115_64 at h
  refine lv_iload (pc := 115) hx hb d_M_operate_115 (lv_at hl 0 rfl) ?_
  refine lv_iconst (pc := 117) (v := 1) hx hb d_M_operate_117 (by decide) ?_
  refine lv_icmp_ne (pc := 118) (tgt := 129) hx hb d_M_operate_118 (by decide) (fun c9 => ?_) (fun c9 => ?_)
  · replace h := h.2 c9
    refine lv_iload (pc := 129) hx hb d_M_operate_129 (lv_at hl 0 rfl) ?_
    refine lv_iconst (pc := 131) (v := 2) hx hb d_M_operate_131 (by decide) ?_
    refine lv_icmp_ne (pc := 132) (tgt := 140) hx hb d_M_operate_132 (by decide) (fun c9 => ?_) (fun c9 => ?_)
    · replace h := h.2 c9
      refine lv_iconst (pc := 140) (v := 0) hx hb d_M_operate_140 (by decide) ?_
      exact HR (bz_n bz_0) d_M_operate_141 ⟨bz_0, h⟩ hw
    · replace h := h.1 c9
      refine lv_aload (pc := 135) hx hb d_M_operate_135 (lv_at hl 1 rfl) ?_
      refine rsV (pc := 137) hw (rnU (pc := 137) xtC fx hw (c_D_stop_4 h _) cw_M_184_E (decl_c fx kw_328 kw_333) (rcC_4 hw) rfl ⟨Nat.le_of_ble_eq_true rfl, Nat.le_of_ble_eq_true rfl⟩ hl.1 (Nat.le_of_ble_eq_true rfl) d_M_operate_137 ⟨Nat.zero_le _, Nat.zero_le _⟩) (fun σ_9 H locs hw h => ?_)
      refine lv_iconst (pc := 140) (v := 0) hx hb d_M_operate_140 (by decide) ?_
      exact HR (bz_n bz_0) d_M_operate_141 ⟨bz_0, h⟩ hw
  · replace h := h.1 c9
    refine lv_aload (pc := 121) hx hb d_M_operate_121 (lv_at hl 1 rfl) ?_
    refine rsV (pc := 123) hw (rnU (pc := 123) xtC fx hw (c_D_start_4 h _) cw_M_181_E (decl_c fx kw_923 kw_928) (rcC_4 hw) rfl ⟨Nat.le_of_ble_eq_true rfl, Nat.le_of_ble_eq_true rfl⟩ hl.1 (Nat.le_of_ble_eq_true rfl) d_M_operate_123 ⟨Nat.zero_le _, Nat.zero_le _⟩) (fun σ_11 H locs hw h => ?_)
    refine lv_goto (pc := 126) (tgt := 140) hx hb d_M_operate_126 (by decide) ?_
    refine lv_iconst (pc := 140) (v := 0) hx hb d_M_operate_140 (by decide) ?_
    exact HR (bz_n bz_0) d_M_operate_141 ⟨bz_0, h⟩ hw
set_option maxHeartbeats 4000000 in
set_option maxRecDepth 100000 in
theorem e_M_operate (fx : CallFix p m c b_M_operate 7 s args GW RNM) {post : Int32 → SS → Prop} (HR : RetI p l e r_M_operate s m args below meth c Q D vcl (tyl cA) (wC cA a) (XC ad) A b_M_operate .boolean (fun r σ => bz r ∧ post r σ)) {σ : SS} {x1 : Int32} {H : Heap} {locs : List Loc} {ls : Array Slot} (h : f_M_operate post σ x1) (hw : CX D vcl (tyl cA) (wC cA a σ) (XC ad) A s H locs) (hl : lv_has ls 7 [(0, .ref (a 1)), (1, .int x1)]) : W p l e r_M_operate s m args below meth c H locs 0 0 Q (F0 m 0 ls []) := by
  have hx := fx.1
  have hb := fx.2.1
  unfold f_M_operate at h
  refine lv_iload_n (pc := 0) hx hb d_M_operate_0 rfl (lv_at hl 1 rfl) ?_
  refine lv_bipush (pc := 1) (v := 11) hx hb d_M_operate_1 (by decide) ?_
  refine lv_ishr (pc := 3) hx hb d_M_operate_3 ?_
  refine lv_iconst (pc := 4) (v := 3) hx hb d_M_operate_4 (by decide) ?_
  refine lv_iand (pc := 5) hx hb d_M_operate_5 ?_
  refine lv_topi (fun x2_13 e9 => ?_)
  replace h := nm_u h e9
  clear e9
  refine lv_istore_n (pc := 6) (lv' := [(2, .int x2_13), (0, .ref (a 1)), (1, .int x1)]) hx hb d_M_operate_6 rfl hl (by decide) rfl (fun ls hl => ?_)
  refine lv_iload_n (pc := 7) hx hb d_M_operate_7 rfl (lv_at hl 2 rfl) ?_
  refine lv_bipush (pc := 8) (v := 8) hx hb d_M_operate_8 (by decide) ?_
  refine lv_ishr (pc := 10) hx hb d_M_operate_10 ?_
  refine lv_bipush (pc := 11) (v := 7) hx hb d_M_operate_11 (by decide) ?_
  refine lv_iand (pc := 13) hx hb d_M_operate_13 ?_
  refine lv_topi (fun x3_14 e9 => ?_)
  replace h := nm_u h e9
  clear e9
  refine lv_istore_n (pc := 14) (lv' := [(3, .int x3_14), (2, .int x2_13), (0, .ref (a 1)), (1, .int x1)]) hx hb d_M_operate_14 rfl hl (by decide) rfl (fun ls hl => ?_)
  refine lv_iload_n (pc := 15) hx hb d_M_operate_15 rfl (lv_at hl 3 rfl) ?_
  refine lv_bipush (pc := 16) (v := 6) hx hb d_M_operate_16 (by decide) ?_
  refine lv_ishr (pc := 18) hx hb d_M_operate_18 ?_
  refine lv_iconst (pc := 19) (v := 3) hx hb d_M_operate_19 (by decide) ?_
  refine lv_iand (pc := 20) hx hb d_M_operate_20 ?_
  refine lv_topi (fun x4_15 e9 => ?_)
  replace h := nm_u h e9
  clear e9
  refine lv_istore (pc := 21) (lv' := [(4, .int x4_15), (3, .int x3_14), (2, .int x2_13), (0, .ref (a 1)), (1, .int x1)]) hx hb d_M_operate_21 hl (by decide) rfl (fun ls hl => ?_)
  refine lv_iload_n (pc := 23) hx hb d_M_operate_23 rfl (lv_at hl 4 rfl) ?_
  refine lv_bipush (pc := 24) (v := 63) hx hb d_M_operate_24 (by decide) ?_
  refine lv_iand (pc := 26) hx hb d_M_operate_26 ?_
  refine lv_topi (fun x5_16 e9 => ?_)
  replace h := nm_u h e9
  clear e9
  refine lv_istore (pc := 27) (lv' := [(5, .int x5_16), (4, .int x4_15), (3, .int x3_14), (2, .int x2_13), (0, .ref (a 1)), (1, .int x1)]) hx hb d_M_operate_27 hl (by decide) rfl (fun ls hl => ?_)
  refine lv_iload (pc := 29) hx hb d_M_operate_29 (lv_at hl 0 rfl) ?_
  refine lv_bipush (pc := 31) (v := 63) hx hb d_M_operate_31 (by decide) ?_
  refine lv_icmp_ne (pc := 33) (tgt := 45) hx hb d_M_operate_33 (by decide) (fun c9 => ?_) (fun c9 => ?_)
  · replace h := h.2 c9
    refine lv_aload_n (pc := 45) hx hb d_M_operate_45 rfl (lv_at hl 4 rfl) ?_
    refine lv_iload (pc := 46) hx hb d_M_operate_46 (lv_at hl 0 rfl) ?_
    refine rsN (pc := 48) hw (rnV (pc := 48) xtC fx hw (c_M_deviceAt h _) cw_M_65 (rcC_1 hw) rfl ⟨Nat.le_of_ble_eq_true rfl, Nat.le_of_ble_eq_true rfl⟩ hl.1 (Nat.le_of_ble_eq_true rfl) d_M_operate_48 ⟨Nat.zero_le _, Nat.zero_le _⟩) (fun r_18 σ_17 H locs hw h => ?_)
    refine dv_s (fun c0 => ?_) (fun c0 c1 => ?_) (fun c0 c1 c2 => ?_) (fun c0 c1 c2 => ?_)
    · replace h := h.1 c0
      refine lv_astore (pc := 51) (lv' := [(6, .ref (a 4)), (5, .int x5_16), (4, .int x4_15), (3, .int x3_14), (2, .int x2_13), (0, .ref (a 1)), (1, .int x1)]) hx hb d_M_operate_51 hl (by decide) rfl (fun ls hl => ?_)
      refine lv_aload (pc := 53) hx hb d_M_operate_53 (lv_at hl 0 rfl) ?_
      refine lv_ifnonnull (pc := 55) (tgt := 67) hx hb d_M_operate_55 (by decide) ?_
      refine lv_iload_n (pc := 67) hx hb d_M_operate_67 rfl (lv_at hl 3 rfl) ?_
      refine lv_bipush (pc := 68) (v := 7) hx hb d_M_operate_68 (by decide) ?_
      refine lv_icmp_ne (pc := 70) (tgt := 81) hx hb d_M_operate_70 (by decide) (fun c9 => ?_) (fun c9 => ?_)
      · replace h := h.2 c9
        refine lv_iload_n (pc := 81) hx hb d_M_operate_81 rfl (lv_at hl 3 rfl) ?_
        refine lv_iconst (pc := 82) (v := 1) hx hb d_M_operate_82 (by decide) ?_
        refine lv_iand (pc := 83) hx hb d_M_operate_83 ?_
        refine lv_iconst (pc := 84) (v := 1) hx hb d_M_operate_84 (by decide) ?_
        refine lv_icmp_ne (pc := 85) (tgt := 103) hx hb d_M_operate_85 (by decide) (fun c9 => ?_) (fun c9 => ?_)
        · replace h := h.2 c9
          refine lv_aload (pc := 103) hx hb d_M_operate_103 (lv_at hl 0 rfl) ?_
          refine lv_iload_n (pc := 105) hx hb d_M_operate_105 rfl (lv_at hl 3 rfl) ?_
          refine lv_aload_n (pc := 106) hx hb d_M_operate_106 rfl (lv_at hl 5 rfl) ?_
          refine gC_1_accumulators (pc := 107) fx hw kw_123 d_M_operate_107 ?_
          refine lv_iload_n (pc := 110) hx hb d_M_operate_110 rfl (lv_at hl 4 rfl) ?_
          refine alC_3 (pc := 111) fx hw h.1 d_M_operate_111 ?_
          replace h := h.2
          refine rsV (pc := 112) hw (rnU (pc := 112) xtC fx hw (c_D_output_4 h _) cw_M_178_E (decl_c fx kw_914 kw_921) (rcC_4 hw) rfl ⟨Nat.le_of_ble_eq_true rfl, Nat.le_of_ble_eq_true rfl⟩ hl.1 (Nat.le_of_ble_eq_true rfl) d_M_operate_112 ⟨Nat.zero_le _, Nat.zero_le _⟩) (fun σ_19 H locs hw h => ?_)
          exact c_M_operate_115_64  fx HR h hw (lv_sub hl [2, 0] rfl)
        · replace h := h.1 c9
          refine lv_aload_n (pc := 88) hx hb d_M_operate_88 rfl (lv_at hl 5 rfl) ?_
          refine gC_1_accumulators (pc := 89) fx hw kw_123 d_M_operate_89 ?_
          refine lv_iload_n (pc := 92) hx hb d_M_operate_92 rfl (lv_at hl 4 rfl) ?_
          refine lv_aload (pc := 93) hx hb d_M_operate_93 (lv_at hl 0 rfl) ?_
          refine lv_iload_n (pc := 95) hx hb d_M_operate_95 rfl (lv_at hl 3 rfl) ?_
          refine rsI (pc := 96) hw (rnU (pc := 96) xtC fx hw (c_E_input h _) cw_M_175_E (decl_c fx kw_905 kw_912) (rcC_4 hw) rfl ⟨Nat.le_of_ble_eq_true rfl, Nat.le_of_ble_eq_true rfl⟩ hl.1 (Nat.le_of_ble_eq_true rfl) d_M_operate_96 ⟨Nat.zero_le _, Nat.zero_le _⟩) (fun r_22 σ_21 H locs hw h => ?_)
          refine asC_3 (pc := 99) fx hw h.1 d_M_operate_99 (fun σ_23 e9 H locs hw => ?_)
          replace h := nm_u h.2 e9
          clear e9
          refine lv_goto (pc := 100) (tgt := 115) hx hb d_M_operate_100 (by decide) ?_
          exact c_M_operate_115_64  fx HR h hw (lv_sub hl [2, 0] rfl)
      · replace h := h.1 c9
        refine lv_aload (pc := 73) hx hb d_M_operate_73 (lv_at hl 0 rfl) ?_
        refine lv_iload (pc := 75) hx hb d_M_operate_75 (lv_at hl 2 rfl) ?_
        refine rsI (pc := 77) hw (rnU (pc := 77) xtC fx hw (c_D_passes_4 h _) cw_M_172_E (decl_c fx kw_898 kw_903) (rcC_4 hw) rfl ⟨Nat.le_of_ble_eq_true rfl, Nat.le_of_ble_eq_true rfl⟩ hl.1 (Nat.le_of_ble_eq_true rfl) d_M_operate_77 ⟨Nat.zero_le _, Nat.zero_le _⟩) (fun r_25 σ_24 H locs hw h => ?_)
        have zr_25 := h.1
        replace h := h.2
        exact HR (bz_n zr_25) d_M_operate_80 ⟨zr_25, h⟩ hw
    · replace h := (h.2 c0).1 c1
      refine lv_astore (pc := 51) (lv' := [(6, .ref (a 6)), (5, .int x5_16), (4, .int x4_15), (3, .int x3_14), (2, .int x2_13), (0, .ref (a 1)), (1, .int x1)]) hx hb d_M_operate_51 hl (by decide) rfl (fun ls hl => ?_)
      refine lv_aload (pc := 53) hx hb d_M_operate_53 (lv_at hl 0 rfl) ?_
      refine lv_ifnonnull (pc := 55) (tgt := 67) hx hb d_M_operate_55 (by decide) ?_
      refine lv_iload_n (pc := 67) hx hb d_M_operate_67 rfl (lv_at hl 3 rfl) ?_
      refine lv_bipush (pc := 68) (v := 7) hx hb d_M_operate_68 (by decide) ?_
      refine lv_icmp_ne (pc := 70) (tgt := 81) hx hb d_M_operate_70 (by decide) (fun c9 => ?_) (fun c9 => ?_)
      · replace h := h.2 c9
        refine lv_iload_n (pc := 81) hx hb d_M_operate_81 rfl (lv_at hl 3 rfl) ?_
        refine lv_iconst (pc := 82) (v := 1) hx hb d_M_operate_82 (by decide) ?_
        refine lv_iand (pc := 83) hx hb d_M_operate_83 ?_
        refine lv_iconst (pc := 84) (v := 1) hx hb d_M_operate_84 (by decide) ?_
        refine lv_icmp_ne (pc := 85) (tgt := 103) hx hb d_M_operate_85 (by decide) (fun c9 => ?_) (fun c9 => ?_)
        · replace h := h.2 c9
          refine lv_aload (pc := 103) hx hb d_M_operate_103 (lv_at hl 0 rfl) ?_
          refine lv_iload_n (pc := 105) hx hb d_M_operate_105 rfl (lv_at hl 3 rfl) ?_
          refine lv_aload_n (pc := 106) hx hb d_M_operate_106 rfl (lv_at hl 5 rfl) ?_
          refine gC_1_accumulators (pc := 107) fx hw kw_123 d_M_operate_107 ?_
          refine lv_iload_n (pc := 110) hx hb d_M_operate_110 rfl (lv_at hl 4 rfl) ?_
          refine alC_3 (pc := 111) fx hw h.1 d_M_operate_111 ?_
          replace h := h.2
          refine rsV (pc := 112) hw (rnU (pc := 112) xtC fx hw (c_P_output h _) cw_M_178_P (decl_c fx kw_914 kw_921) (rcC_6 hw) rfl ⟨Nat.le_of_ble_eq_true rfl, Nat.le_of_ble_eq_true rfl⟩ hl.1 (Nat.le_of_ble_eq_true rfl) d_M_operate_112 ⟨Nat.zero_le _, Nat.zero_le _⟩) (fun σ_26 H locs hw h => ?_)
          exact c_M_operate_115_66  fx HR h hw (lv_sub hl [2, 0] rfl)
        · replace h := h.1 c9
          refine lv_aload_n (pc := 88) hx hb d_M_operate_88 rfl (lv_at hl 5 rfl) ?_
          refine gC_1_accumulators (pc := 89) fx hw kw_123 d_M_operate_89 ?_
          refine lv_iload_n (pc := 92) hx hb d_M_operate_92 rfl (lv_at hl 4 rfl) ?_
          refine lv_aload (pc := 93) hx hb d_M_operate_93 (lv_at hl 0 rfl) ?_
          refine lv_iload_n (pc := 95) hx hb d_M_operate_95 rfl (lv_at hl 3 rfl) ?_
          refine rsI (pc := 96) hw (rnU (pc := 96) xtC fx hw (c_D_input_6 h _) cw_M_175_P (decl_c fx kw_905 kw_912) (rcC_6 hw) rfl ⟨Nat.le_of_ble_eq_true rfl, Nat.le_of_ble_eq_true rfl⟩ hl.1 (Nat.le_of_ble_eq_true rfl) d_M_operate_96 ⟨Nat.zero_le _, Nat.zero_le _⟩) (fun r_29 σ_28 H locs hw h => ?_)
          refine asC_3 (pc := 99) fx hw h.1 d_M_operate_99 (fun σ_30 e9 H locs hw => ?_)
          replace h := nm_u h.2 e9
          clear e9
          refine lv_goto (pc := 100) (tgt := 115) hx hb d_M_operate_100 (by decide) ?_
          exact c_M_operate_115_66  fx HR h hw (lv_sub hl [2, 0] rfl)
      · replace h := h.1 c9
        refine lv_aload (pc := 73) hx hb d_M_operate_73 (lv_at hl 0 rfl) ?_
        refine lv_iload (pc := 75) hx hb d_M_operate_75 (lv_at hl 2 rfl) ?_
        refine rsI (pc := 77) hw (rnU (pc := 77) xtC fx hw (c_D_passes_6 h _) cw_M_172_P (decl_c fx kw_898 kw_903) (rcC_6 hw) rfl ⟨Nat.le_of_ble_eq_true rfl, Nat.le_of_ble_eq_true rfl⟩ hl.1 (Nat.le_of_ble_eq_true rfl) d_M_operate_77 ⟨Nat.zero_le _, Nat.zero_le _⟩) (fun r_32 σ_31 H locs hw h => ?_)
        have zr_32 := h.1
        replace h := h.2
        exact HR (bz_n zr_32) d_M_operate_80 ⟨zr_32, h⟩ hw
    · replace h := ((h.2 c0).2 c1).1 c2
      refine lv_astore (pc := 51) (lv' := [(6, .ref (a 8)), (5, .int x5_16), (4, .int x4_15), (3, .int x3_14), (2, .int x2_13), (0, .ref (a 1)), (1, .int x1)]) hx hb d_M_operate_51 hl (by decide) rfl (fun ls hl => ?_)
      refine lv_aload (pc := 53) hx hb d_M_operate_53 (lv_at hl 0 rfl) ?_
      refine lv_ifnonnull (pc := 55) (tgt := 67) hx hb d_M_operate_55 (by decide) ?_
      refine lv_iload_n (pc := 67) hx hb d_M_operate_67 rfl (lv_at hl 3 rfl) ?_
      refine lv_bipush (pc := 68) (v := 7) hx hb d_M_operate_68 (by decide) ?_
      refine lv_icmp_ne (pc := 70) (tgt := 81) hx hb d_M_operate_70 (by decide) (fun c9 => ?_) (fun c9 => ?_)
      · replace h := h.2 c9
        refine lv_iload_n (pc := 81) hx hb d_M_operate_81 rfl (lv_at hl 3 rfl) ?_
        refine lv_iconst (pc := 82) (v := 1) hx hb d_M_operate_82 (by decide) ?_
        refine lv_iand (pc := 83) hx hb d_M_operate_83 ?_
        refine lv_iconst (pc := 84) (v := 1) hx hb d_M_operate_84 (by decide) ?_
        refine lv_icmp_ne (pc := 85) (tgt := 103) hx hb d_M_operate_85 (by decide) (fun c9 => ?_) (fun c9 => ?_)
        · replace h := h.2 c9
          refine lv_aload (pc := 103) hx hb d_M_operate_103 (lv_at hl 0 rfl) ?_
          refine lv_iload_n (pc := 105) hx hb d_M_operate_105 rfl (lv_at hl 3 rfl) ?_
          refine lv_aload_n (pc := 106) hx hb d_M_operate_106 rfl (lv_at hl 5 rfl) ?_
          refine gC_1_accumulators (pc := 107) fx hw kw_123 d_M_operate_107 ?_
          refine lv_iload_n (pc := 110) hx hb d_M_operate_110 rfl (lv_at hl 4 rfl) ?_
          refine alC_3 (pc := 111) fx hw h.1 d_M_operate_111 ?_
          replace h := h.2
          refine rsV (pc := 112) hw (rnU (pc := 112) xtC fx hw (c_D_output_8 h _) cw_M_178_K (decl_c fx kw_914 kw_921) (rcC_8 hw) rfl ⟨Nat.le_of_ble_eq_true rfl, Nat.le_of_ble_eq_true rfl⟩ hl.1 (Nat.le_of_ble_eq_true rfl) d_M_operate_112 ⟨Nat.zero_le _, Nat.zero_le _⟩) (fun σ_33 H locs hw h => ?_)
          exact c_M_operate_115_68  fx HR h hw (lv_sub hl [2, 0] rfl)
        · replace h := h.1 c9
          refine lv_aload_n (pc := 88) hx hb d_M_operate_88 rfl (lv_at hl 5 rfl) ?_
          refine gC_1_accumulators (pc := 89) fx hw kw_123 d_M_operate_89 ?_
          refine lv_iload_n (pc := 92) hx hb d_M_operate_92 rfl (lv_at hl 4 rfl) ?_
          refine lv_aload (pc := 93) hx hb d_M_operate_93 (lv_at hl 0 rfl) ?_
          refine lv_iload_n (pc := 95) hx hb d_M_operate_95 rfl (lv_at hl 3 rfl) ?_
          refine rsI (pc := 96) hw (rnU (pc := 96) xtC fx hw (c_D_input_8 h _) cw_M_175_K (decl_c fx kw_905 kw_912) (rcC_8 hw) rfl ⟨Nat.le_of_ble_eq_true rfl, Nat.le_of_ble_eq_true rfl⟩ hl.1 (Nat.le_of_ble_eq_true rfl) d_M_operate_96 ⟨Nat.zero_le _, Nat.zero_le _⟩) (fun r_36 σ_35 H locs hw h => ?_)
          refine asC_3 (pc := 99) fx hw h.1 d_M_operate_99 (fun σ_37 e9 H locs hw => ?_)
          replace h := nm_u h.2 e9
          clear e9
          refine lv_goto (pc := 100) (tgt := 115) hx hb d_M_operate_100 (by decide) ?_
          exact c_M_operate_115_68  fx HR h hw (lv_sub hl [2, 0] rfl)
      · replace h := h.1 c9
        refine lv_aload (pc := 73) hx hb d_M_operate_73 (lv_at hl 0 rfl) ?_
        refine lv_iload (pc := 75) hx hb d_M_operate_75 (lv_at hl 2 rfl) ?_
        refine rsI (pc := 77) hw (rnU (pc := 77) xtC fx hw (c_D_passes_8 h _) cw_M_172_K (decl_c fx kw_898 kw_903) (rcC_8 hw) rfl ⟨Nat.le_of_ble_eq_true rfl, Nat.le_of_ble_eq_true rfl⟩ hl.1 (Nat.le_of_ble_eq_true rfl) d_M_operate_77 ⟨Nat.zero_le _, Nat.zero_le _⟩) (fun r_39 σ_38 H locs hw h => ?_)
        have zr_39 := h.1
        replace h := h.2
        exact HR (bz_n zr_39) d_M_operate_80 ⟨zr_39, h⟩ hw
    · replace h := ((h.2 c0).2 c1).2 c2
      refine lv_astoreN (pc := 51) (lv' := [(6, .null), (5, .int x5_16), (4, .int x4_15), (3, .int x3_14), (2, .int x2_13), (0, .ref (a 1)), (1, .int x1)]) hx hb d_M_operate_51 hl (by decide) rfl (fun ls hl => ?_)
      refine lv_aloadN (pc := 53) hx hb d_M_operate_53 (lv_at hl 0 rfl) ?_
      refine lv_ifnonnullN (pc := 55) hx hb d_M_operate_55 ?_
      refine lv_aload_n (pc := 58) hx hb d_M_operate_58 rfl (lv_at hl 5 rfl) ?_
      refine lv_iload_n (pc := 59) hx hb d_M_operate_59 rfl (lv_at hl 4 rfl) ?_
      refine lv_iload_n (pc := 60) hx hb d_M_operate_60 rfl (lv_at hl 3 rfl) ?_
      refine lv_iload (pc := 61) hx hb d_M_operate_61 (lv_at hl 2 rfl) ?_
      refine rsI (pc := 63) hw (rnV (pc := 63) xtC fx hw (c_M_operateNothing h _) cw_M_169 (rcC_1 hw) rfl ⟨Nat.le_of_ble_eq_true rfl, Nat.le_of_ble_eq_true rfl⟩ hl.1 (Nat.le_of_ble_eq_true rfl) d_M_operate_63 ⟨Nat.zero_le _, Nat.zero_le _⟩) (fun r_41 σ_40 H locs hw h => ?_)
      have zr_41 := h.1
      replace h := h.2
      exact HR (bz_n zr_41) d_M_operate_66 ⟨zr_41, h⟩ hw
  · replace h := h.1 c9
    refine lv_aload_n (pc := 36) hx hb d_M_operate_36 rfl (lv_at hl 4 rfl) ?_
    refine lv_iload_n (pc := 37) hx hb d_M_operate_37 rfl (lv_at hl 3 rfl) ?_
    refine lv_iload_n (pc := 38) hx hb d_M_operate_38 rfl (lv_at hl 2 rfl) ?_
    refine lv_iload (pc := 39) hx hb d_M_operate_39 (lv_at hl 1 rfl) ?_
    refine rsI (pc := 41) hw (rnV (pc := 41) xtC fx hw (c_M_operateMachine h _) cw_M_166 (rcC_1 hw) rfl ⟨Nat.le_of_ble_eq_true rfl, Nat.le_of_ble_eq_true rfl⟩ hl.1 (Nat.le_of_ble_eq_true rfl) d_M_operate_41 ⟨Nat.zero_le _, Nat.zero_le _⟩) (fun r_43 σ_42 H locs hw h => ?_)
    have zr_43 := h.1
    replace h := h.2
    exact HR (bz_n zr_43) d_M_operate_44 ⟨zr_43, h⟩ hw
end
theorem c_M_operate {l : Launch} {D : va_G} {cA : Nat → ClassId} {a : Nat → Nat} {ad : Nat → Nat → Nat} {σ : SS} {post : Int32 → SS → Prop} {x1 : Int32} (h : f_M_operate post σ x1) : mI l y_M_operate b_M_operate 7 (some .boolean) 3 65 D vcl (tyl cA) (wC cA a) (XC ad) σ [.ref (a 1), .int x1] (fun r σ => bz r ∧ post r σ) := met_I (by decide) (Nat.le_of_ble_eq_true rfl) (fun p e s m args below meth c A Q fx HR H ls hw hl => e_M_operate  fx HR h hw hl)
abbrev r_M_skips : Room := { frames := 0, cells := 0, slots := 0, locals := 0 }
def f_M_skips (post : Int32 → SS → Prop) (σ : SS) (x0 : Int32) (x1 : Int32) (x2 : Int32) : Prop := br (x0 = (0 : Int32)) (post 0 σ) (br (x0 = (1 : Int32)) (post 1 σ) (br (x0 = (2 : Int32)) (br (x1 = 0) (post 1 σ) (post 0 σ)) (br (x0 = (3 : Int32)) (br (x1 = 0) (post 0 σ) (post 1 σ)) (br (x0 = (4 : Int32)) (br (x2 = 0) (post 1 σ) (post 0 σ)) (br (x0 = (5 : Int32)) (br (x2 = 0) (post 0 σ) (post 1 σ)) (br (x0 = (6 : Int32)) (br (x1 = 0) (post 1 σ) (br (x2 = 0) (post 1 σ) (post 0 σ))) (br (x1 = 0) (post 0 σ) (br (x2 = 0) (post 0 σ) (post 1 σ)))))))))
section
variable {p : Program} {l : Launch} {e : Env} {s : State} {m : MethodId} {args : Array Value} {below : List Frame} {meth : Method} {c : Code} {Q : State → Prop} {D : va_G} {cA : Nat → ClassId} {a : Nat → Nat} {ad : Nat → Nat → Nat} {A : Nat → Prop}
set_option maxHeartbeats 4000000 in
set_option maxRecDepth 100000 in
theorem e_M_skips (fx : CallFix p m c b_M_skips 3 s args GW RNM) {post : Int32 → SS → Prop} (HR : RetI p l e r_M_skips s m args below meth c Q D vcl (tyl cA) (wC cA a) (XC ad) A b_M_skips .boolean (fun r σ => bz r ∧ post r σ)) {σ : SS} {x0 : Int32} {x1 : Int32} {x2 : Int32} {H : Heap} {locs : List Loc} {ls : Array Slot} (h : f_M_skips post σ x0 x1 x2) (hw : CX D vcl (tyl cA) (wC cA a σ) (XC ad) A s H locs) (hl : lv_has ls 3 [(0, .int x0), (1, .int x1), (2, .int x2)]) : W p l e r_M_skips s m args below meth c H locs 0 0 Q (F0 m 0 ls []) := by
  have hx := fx.1
  have hb := fx.2.1
  unfold f_M_skips at h
  refine lv_iload_n (pc := 0) hx hb d_M_skips_0 rfl (lv_at hl 0 rfl) ?_
  by_cases cq_1 : x0 = (0 : Int32)
  · replace h := h.1 cq_1
    refine lv_tableIn (pc := 1) (off := 43) (tgt := 44) hx hb d_M_skips_1 (by rw [cq_1]; decide) (by rw [cq_1]; decide) (by rw [cq_1]; rfl) (by decide) ?_
    refine lv_iconst (pc := 44) (v := 0) hx hb d_M_skips_44 (by decide) ?_
    exact HR (bz_n bz_0) d_M_skips_45 ⟨bz_0, h⟩ hw
  replace h := h.2 cq_1
  by_cases cq_2 : x0 = (1 : Int32)
  · replace h := h.1 cq_2
    refine lv_tableIn (pc := 1) (off := 45) (tgt := 46) hx hb d_M_skips_1 (by rw [cq_2]; decide) (by rw [cq_2]; decide) (by rw [cq_2]; rfl) (by decide) ?_
    refine lv_iconst (pc := 46) (v := 1) hx hb d_M_skips_46 (by decide) ?_
    exact HR (bz_n bz_1) d_M_skips_47 ⟨bz_1, h⟩ hw
  replace h := h.2 cq_2
  by_cases cq_3 : x0 = (2 : Int32)
  · replace h := h.1 cq_3
    refine lv_tableIn (pc := 1) (off := 47) (tgt := 48) hx hb d_M_skips_1 (by rw [cq_3]; decide) (by rw [cq_3]; decide) (by rw [cq_3]; rfl) (by decide) ?_
    refine lv_iload_n (pc := 48) hx hb d_M_skips_48 rfl (lv_at hl 1 rfl) ?_
    refine lv_if_ne (pc := 49) (tgt := 56) hx hb d_M_skips_49 (by decide) (fun c9 => ?_) (fun c9 => ?_)
    · replace h := h.2 c9
      refine lv_iconst (pc := 56) (v := 0) hx hb d_M_skips_56 (by decide) ?_
      exact HR (bz_n bz_0) d_M_skips_57 ⟨bz_0, h⟩ hw
    · replace h := h.1 c9
      refine lv_iconst (pc := 52) (v := 1) hx hb d_M_skips_52 (by decide) ?_
      refine lv_goto (pc := 53) (tgt := 57) hx hb d_M_skips_53 (by decide) ?_
      exact HR (bz_n bz_1) d_M_skips_57 ⟨bz_1, h⟩ hw
  replace h := h.2 cq_3
  by_cases cq_4 : x0 = (3 : Int32)
  · replace h := h.1 cq_4
    refine lv_tableIn (pc := 1) (off := 57) (tgt := 58) hx hb d_M_skips_1 (by rw [cq_4]; decide) (by rw [cq_4]; decide) (by rw [cq_4]; rfl) (by decide) ?_
    refine lv_iload_n (pc := 58) hx hb d_M_skips_58 rfl (lv_at hl 1 rfl) ?_
    refine lv_if_eq (pc := 59) (tgt := 66) hx hb d_M_skips_59 (by decide) (fun c9 => ?_) (fun c9 => ?_)
    · replace h := h.1 c9
      refine lv_iconst (pc := 66) (v := 0) hx hb d_M_skips_66 (by decide) ?_
      exact HR (bz_n bz_0) d_M_skips_67 ⟨bz_0, h⟩ hw
    · replace h := h.2 c9
      refine lv_iconst (pc := 62) (v := 1) hx hb d_M_skips_62 (by decide) ?_
      refine lv_goto (pc := 63) (tgt := 67) hx hb d_M_skips_63 (by decide) ?_
      exact HR (bz_n bz_1) d_M_skips_67 ⟨bz_1, h⟩ hw
  replace h := h.2 cq_4
  by_cases cq_5 : x0 = (4 : Int32)
  · replace h := h.1 cq_5
    refine lv_tableIn (pc := 1) (off := 67) (tgt := 68) hx hb d_M_skips_1 (by rw [cq_5]; decide) (by rw [cq_5]; decide) (by rw [cq_5]; rfl) (by decide) ?_
    refine lv_iload_n (pc := 68) hx hb d_M_skips_68 rfl (lv_at hl 2 rfl) ?_
    refine lv_if_ne (pc := 69) (tgt := 76) hx hb d_M_skips_69 (by decide) (fun c9 => ?_) (fun c9 => ?_)
    · replace h := h.2 c9
      refine lv_iconst (pc := 76) (v := 0) hx hb d_M_skips_76 (by decide) ?_
      exact HR (bz_n bz_0) d_M_skips_77 ⟨bz_0, h⟩ hw
    · replace h := h.1 c9
      refine lv_iconst (pc := 72) (v := 1) hx hb d_M_skips_72 (by decide) ?_
      refine lv_goto (pc := 73) (tgt := 77) hx hb d_M_skips_73 (by decide) ?_
      exact HR (bz_n bz_1) d_M_skips_77 ⟨bz_1, h⟩ hw
  replace h := h.2 cq_5
  by_cases cq_6 : x0 = (5 : Int32)
  · replace h := h.1 cq_6
    refine lv_tableIn (pc := 1) (off := 77) (tgt := 78) hx hb d_M_skips_1 (by rw [cq_6]; decide) (by rw [cq_6]; decide) (by rw [cq_6]; rfl) (by decide) ?_
    refine lv_iload_n (pc := 78) hx hb d_M_skips_78 rfl (lv_at hl 2 rfl) ?_
    refine lv_if_eq (pc := 79) (tgt := 86) hx hb d_M_skips_79 (by decide) (fun c9 => ?_) (fun c9 => ?_)
    · replace h := h.1 c9
      refine lv_iconst (pc := 86) (v := 0) hx hb d_M_skips_86 (by decide) ?_
      exact HR (bz_n bz_0) d_M_skips_87 ⟨bz_0, h⟩ hw
    · replace h := h.2 c9
      refine lv_iconst (pc := 82) (v := 1) hx hb d_M_skips_82 (by decide) ?_
      refine lv_goto (pc := 83) (tgt := 87) hx hb d_M_skips_83 (by decide) ?_
      exact HR (bz_n bz_1) d_M_skips_87 ⟨bz_1, h⟩ hw
  replace h := h.2 cq_6
  by_cases cq_7 : x0 = (6 : Int32)
  · replace h := h.1 cq_7
    refine lv_tableIn (pc := 1) (off := 87) (tgt := 88) hx hb d_M_skips_1 (by rw [cq_7]; decide) (by rw [cq_7]; decide) (by rw [cq_7]; rfl) (by decide) ?_
    refine lv_iload_n (pc := 88) hx hb d_M_skips_88 rfl (lv_at hl 1 rfl) ?_
    refine lv_if_eq (pc := 89) (tgt := 96) hx hb d_M_skips_89 (by decide) (fun c9 => ?_) (fun c9 => ?_)
    · replace h := h.1 c9
      refine lv_iconst (pc := 96) (v := 1) hx hb d_M_skips_96 (by decide) ?_
      refine lv_goto (pc := 97) (tgt := 101) hx hb d_M_skips_97 (by decide) ?_
      exact HR (bz_n bz_1) d_M_skips_101 ⟨bz_1, h⟩ hw
    · replace h := h.2 c9
      refine lv_iload_n (pc := 92) hx hb d_M_skips_92 rfl (lv_at hl 2 rfl) ?_
      refine lv_if_ne (pc := 93) (tgt := 100) hx hb d_M_skips_93 (by decide) (fun c9 => ?_) (fun c9 => ?_)
      · replace h := h.2 c9
        refine lv_iconst (pc := 100) (v := 0) hx hb d_M_skips_100 (by decide) ?_
        exact HR (bz_n bz_0) d_M_skips_101 ⟨bz_0, h⟩ hw
      · replace h := h.1 c9
        refine lv_iconst (pc := 96) (v := 1) hx hb d_M_skips_96 (by decide) ?_
        refine lv_goto (pc := 97) (tgt := 101) hx hb d_M_skips_97 (by decide) ?_
        exact HR (bz_n bz_1) d_M_skips_101 ⟨bz_1, h⟩ hw
  replace h := h.2 cq_7
  refine lv_tableOut (pc := 1) (tgt := 102) hx hb d_M_skips_1 (by have := lv_neT cq_1 (a := 0) (by decide); have := lv_neT cq_2 (a := 1) (by decide); have := lv_neT cq_3 (a := 2) (by decide); have := lv_neT cq_4 (a := 3) (by decide); have := lv_neT cq_5 (a := 4) (by decide); have := lv_neT cq_6 (a := 5) (by decide); have := lv_neT cq_7 (a := 6) (by decide); omega) (by decide) ?_
  refine lv_iload_n (pc := 102) hx hb d_M_skips_102 rfl (lv_at hl 1 rfl) ?_
  refine lv_if_eq (pc := 103) (tgt := 114) hx hb d_M_skips_103 (by decide) (fun c9 => ?_) (fun c9 => ?_)
  · replace h := h.1 c9
    refine lv_iconst (pc := 114) (v := 0) hx hb d_M_skips_114 (by decide) ?_
    exact HR (bz_n bz_0) d_M_skips_115 ⟨bz_0, h⟩ hw
  · replace h := h.2 c9
    refine lv_iload_n (pc := 106) hx hb d_M_skips_106 rfl (lv_at hl 2 rfl) ?_
    refine lv_if_eq (pc := 107) (tgt := 114) hx hb d_M_skips_107 (by decide) (fun c9 => ?_) (fun c9 => ?_)
    · replace h := h.1 c9
      refine lv_iconst (pc := 114) (v := 0) hx hb d_M_skips_114 (by decide) ?_
      exact HR (bz_n bz_0) d_M_skips_115 ⟨bz_0, h⟩ hw
    · replace h := h.2 c9
      refine lv_iconst (pc := 110) (v := 1) hx hb d_M_skips_110 (by decide) ?_
      refine lv_goto (pc := 111) (tgt := 115) hx hb d_M_skips_111 (by decide) ?_
      exact HR (bz_n bz_1) d_M_skips_115 ⟨bz_1, h⟩ hw
end
theorem c_M_skips {l : Launch} {D : va_G} {cA : Nat → ClassId} {a : Nat → Nat} {ad : Nat → Nat → Nat} {σ : SS} {post : Int32 → SS → Prop} {x0 : Int32} {x1 : Int32} {x2 : Int32} (h : f_M_skips post σ x0 x1 x2) : mI l y_M_skips b_M_skips 3 (some .boolean) 0 0 D vcl (tyl cA) (wC cA a) (XC ad) σ [.int x0, .int x1, .int x2] (fun r σ => bz r ∧ post r σ) := met_I (by decide) (Nat.le_of_ble_eq_true rfl) (fun p e s m args below meth c A Q fx HR H ls hw hl => e_M_skips  fx HR h hw hl)
abbrev r_M_sumOf : Room := { frames := 0, cells := 0, slots := 0, locals := 0 }
def f_M_sumOf (post : Int32 → SS → Prop) (σ : SS) (x0 : Int32) (x1 : Int32) (x2 : Int32) : Prop := nm (x1 ^^^ 65535) fun x3_1 => br (x0 = (0 : Int32)) (post x3_1 σ) (br (x0 = (1 : Int32)) (post (x3_1 + 1) σ) (br (x0 = (2 : Int32)) (post x1 σ) (br (x0 = (3 : Int32)) (post (x1 + 1) σ) (br (x0 = (4 : Int32)) (post (x2 + x3_1) σ) (br (x0 = (5 : Int32)) (post ((x2 + x3_1) + 1) σ) (br (x0 = (6 : Int32)) (post (x2 + x1) σ) (post (x2 &&& x1) σ)))))))
section
variable {p : Program} {l : Launch} {e : Env} {s : State} {m : MethodId} {args : Array Value} {below : List Frame} {meth : Method} {c : Code} {Q : State → Prop} {D : va_G} {cA : Nat → ClassId} {a : Nat → Nat} {ad : Nat → Nat → Nat} {A : Nat → Prop}
set_option maxHeartbeats 4000000 in
set_option maxRecDepth 100000 in
theorem e_M_sumOf (fx : CallFix p m c b_M_sumOf 4 s args GW RNM) {post : Int32 → SS → Prop} (HR : RetI p l e r_M_sumOf s m args below meth c Q D vcl (tyl cA) (wC cA a) (XC ad) A b_M_sumOf .int post) {σ : SS} {x0 : Int32} {x1 : Int32} {x2 : Int32} {H : Heap} {locs : List Loc} {ls : Array Slot} (h : f_M_sumOf post σ x0 x1 x2) (hw : CX D vcl (tyl cA) (wC cA a σ) (XC ad) A s H locs) (hl : lv_has ls 4 [(0, .int x0), (1, .int x1), (2, .int x2)]) : W p l e r_M_sumOf s m args below meth c H locs 0 0 Q (F0 m 0 ls []) := by
  have hx := fx.1
  have hb := fx.2.1
  unfold f_M_sumOf at h
  refine lv_iload_n (pc := 0) hx hb d_M_sumOf_0 rfl (lv_at hl 1 rfl) ?_
  refine lv_ldc (pc := 1) (v := 65535) hx hb fx.2.2.2.1 (fx.2.2.2.2 _ kw_848) d_M_sumOf_1 ?_
  refine lv_ixor (pc := 3) hx hb d_M_sumOf_3 ?_
  refine lv_topi (fun x3_1 e9 => ?_)
  replace h := nm_u h e9
  clear e9
  refine lv_istore_n (pc := 4) (lv' := [(3, .int x3_1), (0, .int x0), (1, .int x1), (2, .int x2)]) hx hb d_M_sumOf_4 rfl hl (by decide) rfl (fun ls hl => ?_)
  refine lv_iload_n (pc := 5) hx hb d_M_sumOf_5 rfl (lv_at hl 1 rfl) ?_
  by_cases cq_2 : x0 = (0 : Int32)
  · replace h := h.1 cq_2
    refine lv_tableIn (pc := 6) (off := 42) (tgt := 48) hx hb d_M_sumOf_6 (by rw [cq_2]; decide) (by rw [cq_2]; decide) (by rw [cq_2]; rfl) (by decide) ?_
    refine lv_iload_n (pc := 48) hx hb d_M_sumOf_48 rfl (lv_at hl 0 rfl) ?_
    exact HR rfl d_M_sumOf_49 h hw
  replace h := h.2 cq_2
  by_cases cq_3 : x0 = (1 : Int32)
  · replace h := h.1 cq_3
    refine lv_tableIn (pc := 6) (off := 44) (tgt := 50) hx hb d_M_sumOf_6 (by rw [cq_3]; decide) (by rw [cq_3]; decide) (by rw [cq_3]; rfl) (by decide) ?_
    refine lv_iload_n (pc := 50) hx hb d_M_sumOf_50 rfl (lv_at hl 0 rfl) ?_
    refine lv_iconst (pc := 51) (v := 1) hx hb d_M_sumOf_51 (by decide) ?_
    refine lv_iadd (pc := 52) hx hb d_M_sumOf_52 ?_
    exact HR rfl d_M_sumOf_53 h hw
  replace h := h.2 cq_3
  by_cases cq_4 : x0 = (2 : Int32)
  · replace h := h.1 cq_4
    refine lv_tableIn (pc := 6) (off := 48) (tgt := 54) hx hb d_M_sumOf_6 (by rw [cq_4]; decide) (by rw [cq_4]; decide) (by rw [cq_4]; rfl) (by decide) ?_
    refine lv_iload_n (pc := 54) hx hb d_M_sumOf_54 rfl (lv_at hl 2 rfl) ?_
    exact HR rfl d_M_sumOf_55 h hw
  replace h := h.2 cq_4
  by_cases cq_5 : x0 = (3 : Int32)
  · replace h := h.1 cq_5
    refine lv_tableIn (pc := 6) (off := 50) (tgt := 56) hx hb d_M_sumOf_6 (by rw [cq_5]; decide) (by rw [cq_5]; decide) (by rw [cq_5]; rfl) (by decide) ?_
    refine lv_iload_n (pc := 56) hx hb d_M_sumOf_56 rfl (lv_at hl 2 rfl) ?_
    refine lv_iconst (pc := 57) (v := 1) hx hb d_M_sumOf_57 (by decide) ?_
    refine lv_iadd (pc := 58) hx hb d_M_sumOf_58 ?_
    exact HR rfl d_M_sumOf_59 h hw
  replace h := h.2 cq_5
  by_cases cq_6 : x0 = (4 : Int32)
  · replace h := h.1 cq_6
    refine lv_tableIn (pc := 6) (off := 54) (tgt := 60) hx hb d_M_sumOf_6 (by rw [cq_6]; decide) (by rw [cq_6]; decide) (by rw [cq_6]; rfl) (by decide) ?_
    refine lv_iload_n (pc := 60) hx hb d_M_sumOf_60 rfl (lv_at hl 3 rfl) ?_
    refine lv_iload_n (pc := 61) hx hb d_M_sumOf_61 rfl (lv_at hl 0 rfl) ?_
    refine lv_iadd (pc := 62) hx hb d_M_sumOf_62 ?_
    exact HR rfl d_M_sumOf_63 h hw
  replace h := h.2 cq_6
  by_cases cq_7 : x0 = (5 : Int32)
  · replace h := h.1 cq_7
    refine lv_tableIn (pc := 6) (off := 58) (tgt := 64) hx hb d_M_sumOf_6 (by rw [cq_7]; decide) (by rw [cq_7]; decide) (by rw [cq_7]; rfl) (by decide) ?_
    refine lv_iload_n (pc := 64) hx hb d_M_sumOf_64 rfl (lv_at hl 3 rfl) ?_
    refine lv_iload_n (pc := 65) hx hb d_M_sumOf_65 rfl (lv_at hl 0 rfl) ?_
    refine lv_iadd (pc := 66) hx hb d_M_sumOf_66 ?_
    refine lv_iconst (pc := 67) (v := 1) hx hb d_M_sumOf_67 (by decide) ?_
    refine lv_iadd (pc := 68) hx hb d_M_sumOf_68 ?_
    exact HR rfl d_M_sumOf_69 h hw
  replace h := h.2 cq_7
  by_cases cq_8 : x0 = (6 : Int32)
  · replace h := h.1 cq_8
    refine lv_tableIn (pc := 6) (off := 64) (tgt := 70) hx hb d_M_sumOf_6 (by rw [cq_8]; decide) (by rw [cq_8]; decide) (by rw [cq_8]; rfl) (by decide) ?_
    refine lv_iload_n (pc := 70) hx hb d_M_sumOf_70 rfl (lv_at hl 3 rfl) ?_
    refine lv_iload_n (pc := 71) hx hb d_M_sumOf_71 rfl (lv_at hl 2 rfl) ?_
    refine lv_iadd (pc := 72) hx hb d_M_sumOf_72 ?_
    exact HR rfl d_M_sumOf_73 h hw
  replace h := h.2 cq_8
  refine lv_tableOut (pc := 6) (tgt := 74) hx hb d_M_sumOf_6 (by have := lv_neT cq_2 (a := 0) (by decide); have := lv_neT cq_3 (a := 1) (by decide); have := lv_neT cq_4 (a := 2) (by decide); have := lv_neT cq_5 (a := 3) (by decide); have := lv_neT cq_6 (a := 4) (by decide); have := lv_neT cq_7 (a := 5) (by decide); have := lv_neT cq_8 (a := 6) (by decide); omega) (by decide) ?_
  refine lv_iload_n (pc := 74) hx hb d_M_sumOf_74 rfl (lv_at hl 3 rfl) ?_
  refine lv_iload_n (pc := 75) hx hb d_M_sumOf_75 rfl (lv_at hl 2 rfl) ?_
  refine lv_iand (pc := 76) hx hb d_M_sumOf_76 ?_
  exact HR rfl d_M_sumOf_77 h hw
end
theorem c_M_sumOf {l : Launch} {D : va_G} {cA : Nat → ClassId} {a : Nat → Nat} {ad : Nat → Nat → Nat} {σ : SS} {post : Int32 → SS → Prop} {x0 : Int32} {x1 : Int32} {x2 : Int32} (h : f_M_sumOf post σ x0 x1 x2) : mI l y_M_sumOf b_M_sumOf 4 (some .int) 0 0 D vcl (tyl cA) (wC cA a) (XC ad) σ [.int x0, .int x1, .int x2] post := met_I (by decide) (Nat.le_of_ble_eq_true rfl) (fun p e s m args below meth c A Q fx HR H ls hw hl => e_M_sumOf  fx HR h hw hl)
abbrev r_M_baseOf : Room := { frames := 0, cells := 0, slots := 0, locals := 0 }
def f_M_baseOf (post : Int32 → SS → Prop) (σ : SS) (x1 : Int32) : Prop := br (x1 = (0 : Int32)) (post (σ.1 0) σ) (br (x1 = (1 : Int32)) (post 0 σ) (br (x1 = (2 : Int32)) (post 1 σ) (post (1 - (σ.1 0)) σ)))
section
variable {p : Program} {l : Launch} {e : Env} {s : State} {m : MethodId} {args : Array Value} {below : List Frame} {meth : Method} {c : Code} {Q : State → Prop} {D : va_G} {cA : Nat → ClassId} {a : Nat → Nat} {ad : Nat → Nat → Nat} {A : Nat → Prop}
set_option maxHeartbeats 4000000 in
set_option maxRecDepth 100000 in
theorem e_M_baseOf (fx : CallFix p m c b_M_baseOf 2 s args GW RNM) {post : Int32 → SS → Prop} (HR : RetI p l e r_M_baseOf s m args below meth c Q D vcl (tyl cA) (wC cA a) (XC ad) A b_M_baseOf .int post) {σ : SS} {x1 : Int32} {H : Heap} {locs : List Loc} {ls : Array Slot} (h : f_M_baseOf post σ x1) (hw : CX D vcl (tyl cA) (wC cA a σ) (XC ad) A s H locs) (hl : lv_has ls 2 [(0, .ref (a 1)), (1, .int x1)]) : W p l e r_M_baseOf s m args below meth c H locs 0 0 Q (F0 m 0 ls []) := by
  have hx := fx.1
  have hb := fx.2.1
  unfold f_M_baseOf at h
  refine lv_iload_n (pc := 0) hx hb d_M_baseOf_0 rfl (lv_at hl 1 rfl) ?_
  by_cases cq_1 : x1 = (0 : Int32)
  · replace h := h.1 cq_1
    refine lv_tableIn (pc := 1) (off := 27) (tgt := 28) hx hb d_M_baseOf_1 (by rw [cq_1]; decide) (by rw [cq_1]; decide) (by rw [cq_1]; rfl) (by decide) ?_
    refine lv_aload_n (pc := 28) hx hb d_M_baseOf_28 rfl (lv_at hl 0 rfl) ?_
    refine gC_1_carry (pc := 29) fx hw kw_129 d_M_baseOf_29 ?_
    exact HR rfl d_M_baseOf_32 h hw
  replace h := h.2 cq_1
  by_cases cq_2 : x1 = (1 : Int32)
  · replace h := h.1 cq_2
    refine lv_tableIn (pc := 1) (off := 32) (tgt := 33) hx hb d_M_baseOf_1 (by rw [cq_2]; decide) (by rw [cq_2]; decide) (by rw [cq_2]; rfl) (by decide) ?_
    refine lv_iconst (pc := 33) (v := 0) hx hb d_M_baseOf_33 (by decide) ?_
    exact HR rfl d_M_baseOf_34 h hw
  replace h := h.2 cq_2
  by_cases cq_3 : x1 = (2 : Int32)
  · replace h := h.1 cq_3
    refine lv_tableIn (pc := 1) (off := 34) (tgt := 35) hx hb d_M_baseOf_1 (by rw [cq_3]; decide) (by rw [cq_3]; decide) (by rw [cq_3]; rfl) (by decide) ?_
    refine lv_iconst (pc := 35) (v := 1) hx hb d_M_baseOf_35 (by decide) ?_
    exact HR rfl d_M_baseOf_36 h hw
  replace h := h.2 cq_3
  refine lv_tableOut (pc := 1) (tgt := 37) hx hb d_M_baseOf_1 (by have := lv_neT cq_1 (a := 0) (by decide); have := lv_neT cq_2 (a := 1) (by decide); have := lv_neT cq_3 (a := 2) (by decide); omega) (by decide) ?_
  refine lv_iconst (pc := 37) (v := 1) hx hb d_M_baseOf_37 (by decide) ?_
  refine lv_aload_n (pc := 38) hx hb d_M_baseOf_38 rfl (lv_at hl 0 rfl) ?_
  refine gC_1_carry (pc := 39) fx hw kw_129 d_M_baseOf_39 ?_
  refine lv_isub (pc := 42) hx hb d_M_baseOf_42 ?_
  exact HR rfl d_M_baseOf_43 h hw
end
theorem c_M_baseOf {l : Launch} {D : va_G} {cA : Nat → ClassId} {a : Nat → Nat} {ad : Nat → Nat → Nat} {σ : SS} {post : Int32 → SS → Prop} {x1 : Int32} (h : f_M_baseOf post σ x1) : mI l y_M_baseOf b_M_baseOf 2 (some .int) 0 0 D vcl (tyl cA) (wC cA a) (XC ad) σ [.ref (a 1), .int x1] post := met_I (by decide) (Nat.le_of_ble_eq_true rfl) (fun p e s m args below meth c A Q fx HR H ls hw hl => e_M_baseOf  fx HR h hw hl)
abbrev r_M_shift : Room := { frames := 0, cells := 0, slots := 0, locals := 0 }
def f_M_shift (post : Int32 → SS → Prop) (σ : SS) (x0 : Int32) (x1 : Int32) : Prop := br (x0 = (0 : Int32)) (post x1 σ) (br (x0 = (1 : Int32)) (post (((x1 <<< ((1 : Int32) &&& 31)) ||| (x1 >>> ((16 : Int32) &&& 31))) &&& 131071) σ) (br (x0 = (2 : Int32)) (post ((x1 >>> ((1 : Int32) &&& 31)) ||| ((x1 &&& 1) <<< ((16 : Int32) &&& 31))) σ) (post (((x1 &&& 65536) ||| ((x1 &&& 255) <<< ((8 : Int32) &&& 31))) ||| ((x1 >>> ((8 : Int32) &&& 31)) &&& 255)) σ)))
section
variable {p : Program} {l : Launch} {e : Env} {s : State} {m : MethodId} {args : Array Value} {below : List Frame} {meth : Method} {c : Code} {Q : State → Prop} {D : va_G} {cA : Nat → ClassId} {a : Nat → Nat} {ad : Nat → Nat → Nat} {A : Nat → Prop}
set_option maxHeartbeats 4000000 in
set_option maxRecDepth 100000 in
theorem e_M_shift (fx : CallFix p m c b_M_shift 2 s args GW RNM) {post : Int32 → SS → Prop} (HR : RetI p l e r_M_shift s m args below meth c Q D vcl (tyl cA) (wC cA a) (XC ad) A b_M_shift .int post) {σ : SS} {x0 : Int32} {x1 : Int32} {H : Heap} {locs : List Loc} {ls : Array Slot} (h : f_M_shift post σ x0 x1) (hw : CX D vcl (tyl cA) (wC cA a σ) (XC ad) A s H locs) (hl : lv_has ls 2 [(0, .int x0), (1, .int x1)]) : W p l e r_M_shift s m args below meth c H locs 0 0 Q (F0 m 0 ls []) := by
  have hx := fx.1
  have hb := fx.2.1
  unfold f_M_shift at h
  refine lv_iload_n (pc := 0) hx hb d_M_shift_0 rfl (lv_at hl 0 rfl) ?_
  by_cases cq_1 : x0 = (0 : Int32)
  · replace h := h.1 cq_1
    refine lv_tableIn (pc := 1) (off := 27) (tgt := 28) hx hb d_M_shift_1 (by rw [cq_1]; decide) (by rw [cq_1]; decide) (by rw [cq_1]; rfl) (by decide) ?_
    refine lv_iload_n (pc := 28) hx hb d_M_shift_28 rfl (lv_at hl 1 rfl) ?_
    exact HR rfl d_M_shift_29 h hw
  replace h := h.2 cq_1
  by_cases cq_2 : x0 = (1 : Int32)
  · replace h := h.1 cq_2
    refine lv_tableIn (pc := 1) (off := 29) (tgt := 30) hx hb d_M_shift_1 (by rw [cq_2]; decide) (by rw [cq_2]; decide) (by rw [cq_2]; rfl) (by decide) ?_
    refine lv_iload_n (pc := 30) hx hb d_M_shift_30 rfl (lv_at hl 1 rfl) ?_
    refine lv_iconst (pc := 31) (v := 1) hx hb d_M_shift_31 (by decide) ?_
    refine lv_ishl (pc := 32) hx hb d_M_shift_32 ?_
    refine lv_iload_n (pc := 33) hx hb d_M_shift_33 rfl (lv_at hl 1 rfl) ?_
    refine lv_bipush (pc := 34) (v := 16) hx hb d_M_shift_34 (by decide) ?_
    refine lv_ishr (pc := 36) hx hb d_M_shift_36 ?_
    refine lv_ior (pc := 37) hx hb d_M_shift_37 ?_
    refine lv_ldc (pc := 38) (v := 131071) hx hb fx.2.2.2.1 (fx.2.2.2.2 _ kw_867) d_M_shift_38 ?_
    refine lv_iand (pc := 40) hx hb d_M_shift_40 ?_
    exact HR rfl d_M_shift_41 h hw
  replace h := h.2 cq_2
  by_cases cq_3 : x0 = (2 : Int32)
  · replace h := h.1 cq_3
    refine lv_tableIn (pc := 1) (off := 41) (tgt := 42) hx hb d_M_shift_1 (by rw [cq_3]; decide) (by rw [cq_3]; decide) (by rw [cq_3]; rfl) (by decide) ?_
    refine lv_iload_n (pc := 42) hx hb d_M_shift_42 rfl (lv_at hl 1 rfl) ?_
    refine lv_iconst (pc := 43) (v := 1) hx hb d_M_shift_43 (by decide) ?_
    refine lv_ishr (pc := 44) hx hb d_M_shift_44 ?_
    refine lv_iload_n (pc := 45) hx hb d_M_shift_45 rfl (lv_at hl 1 rfl) ?_
    refine lv_iconst (pc := 46) (v := 1) hx hb d_M_shift_46 (by decide) ?_
    refine lv_iand (pc := 47) hx hb d_M_shift_47 ?_
    refine lv_bipush (pc := 48) (v := 16) hx hb d_M_shift_48 (by decide) ?_
    refine lv_ishl (pc := 50) hx hb d_M_shift_50 ?_
    refine lv_ior (pc := 51) hx hb d_M_shift_51 ?_
    exact HR rfl d_M_shift_52 h hw
  replace h := h.2 cq_3
  refine lv_tableOut (pc := 1) (tgt := 53) hx hb d_M_shift_1 (by have := lv_neT cq_1 (a := 0) (by decide); have := lv_neT cq_2 (a := 1) (by decide); have := lv_neT cq_3 (a := 2) (by decide); omega) (by decide) ?_
  refine lv_iload_n (pc := 53) hx hb d_M_shift_53 rfl (lv_at hl 1 rfl) ?_
  refine lv_ldc (pc := 54) (v := 65536) hx hb fx.2.2.2.1 (fx.2.2.2.2 _ kw_868) d_M_shift_54 ?_
  refine lv_iand (pc := 56) hx hb d_M_shift_56 ?_
  refine lv_iload_n (pc := 57) hx hb d_M_shift_57 rfl (lv_at hl 1 rfl) ?_
  refine lv_sipush (pc := 58) (v := 255) hx hb d_M_shift_58 (by decide) ?_
  refine lv_iand (pc := 61) hx hb d_M_shift_61 ?_
  refine lv_bipush (pc := 62) (v := 8) hx hb d_M_shift_62 (by decide) ?_
  refine lv_ishl (pc := 64) hx hb d_M_shift_64 ?_
  refine lv_ior (pc := 65) hx hb d_M_shift_65 ?_
  refine lv_iload_n (pc := 66) hx hb d_M_shift_66 rfl (lv_at hl 1 rfl) ?_
  refine lv_bipush (pc := 67) (v := 8) hx hb d_M_shift_67 (by decide) ?_
  refine lv_ishr (pc := 69) hx hb d_M_shift_69 ?_
  refine lv_sipush (pc := 70) (v := 255) hx hb d_M_shift_70 (by decide) ?_
  refine lv_iand (pc := 73) hx hb d_M_shift_73 ?_
  refine lv_ior (pc := 74) hx hb d_M_shift_74 ?_
  exact HR rfl d_M_shift_75 h hw
end
theorem c_M_shift {l : Launch} {D : va_G} {cA : Nat → ClassId} {a : Nat → Nat} {ad : Nat → Nat → Nat} {σ : SS} {post : Int32 → SS → Prop} {x0 : Int32} {x1 : Int32} (h : f_M_shift post σ x0 x1) : mI l y_M_shift b_M_shift 2 (some .int) 0 0 D vcl (tyl cA) (wC cA a) (XC ad) σ [.int x0, .int x1] post := met_I (by decide) (Nat.le_of_ble_eq_true rfl) (fun p e s m args below meth c A Q fx HR H ls hw hl => e_M_shift  fx HR h hw hl)
abbrev r_M_calculate : Room := { frames := 1, cells := 0, slots := 0, locals := 23 }
def f_M_calculate_112 (post : Int32 → SS → Prop) (σ : SS) (x1 : Int32) (x7 : Int32) (x8 : Int32) : Prop := f_M_skips (fun r_2 σ_1 => post r_2 σ_1) σ (x1 &&& 7) x7 x8
def f_M_calculate (post : Int32 → SS → Prop) (σ : SS) (x1 : Int32) : Prop := nm ((x1 >>> ((11 : Int32) &&& 31)) &&& 3) fun x2_3 => vp_in ((x1 >>> ((13 : Int32) &&& 31)) &&& 3) 4 ∧ nm (σ.2.1 3 ((x1 >>> ((13 : Int32) &&& 31)) &&& 3).toNatClampNeg) fun x3_4 => vp_in x2_3 4 ∧ f_M_sumOf (fun r_6 σ_5 => f_M_baseOf (fun r_8 σ_7 => nm (r_8 ^^^ (r_6 >>> ((16 : Int32) &&& 31))) fun x5_9 => f_M_shift (fun r_11 σ_10 => nm (r_11 >>> ((16 : Int32) &&& 31)) fun x7_12 => nm (r_11 &&& 65535) fun x8_13 => br ((x1 &&& 8) = 0) (vp_in x2_3 4 ∧ nm (sA σ_10 3 x2_3.toNatClampNeg x8_13) fun σ_14 => nm (sI σ_14 0 x7_12) fun σ_15 => f_M_calculate_112 post σ_15 x1 x7_12 x8_13) (f_M_calculate_112 post σ_10 x1 x7_12 x8_13)) σ_7 ((x1 >>> ((6 : Int32) &&& 31)) &&& 3) ((x5_9 <<< ((16 : Int32) &&& 31)) ||| (r_6 &&& 65535))) σ_5 ((x1 >>> ((4 : Int32) &&& 31)) &&& 3)) σ ((x1 >>> ((8 : Int32) &&& 31)) &&& 7) x3_4 (σ.2.1 3 x2_3.toNatClampNeg)
section
variable {p : Program} {l : Launch} {e : Env} {s : State} {m : MethodId} {args : Array Value} {below : List Frame} {meth : Method} {c : Code} {Q : State → Prop} {D : va_G} {cA : Nat → ClassId} {a : Nat → Nat} {ad : Nat → Nat → Nat} {A : Nat → Prop}
set_option maxHeartbeats 4000000 in
set_option maxRecDepth 100000 in
theorem c_M_calculate_112 (fx : CallFix p m c b_M_calculate 9 s args GW RNM) {post : Int32 → SS → Prop} (HR : RetI p l e r_M_calculate s m args below meth c Q D vcl (tyl cA) (wC cA a) (XC ad) A b_M_calculate .boolean (fun r σ => bz r ∧ post r σ)) {σ : SS} {x1 : Int32} {x7 : Int32} {x8 : Int32} {H : Heap} {locs : List Loc} {ls : Array Slot} (h : f_M_calculate_112 post σ x1 x7 x8) (hw : CX D vcl (tyl cA) (wC cA a σ) (XC ad) A s H locs) (hl : lv_has ls 9 [(1, .int x1), (7, .int x7), (8, .int x8)]) : W p l e r_M_calculate s m args below meth c H locs 0 0 Q (F0 m 112 ls []) := by
  have hx := fx.1
  have hb := fx.2.1
  unfold f_M_calculate_112 at h
  refine lv_iload_n (pc := 112) hx hb d_M_calculate_112 rfl (lv_at hl 0 rfl) ?_
  refine lv_bipush (pc := 113) (v := 7) hx hb d_M_calculate_113 (by decide) ?_
  refine lv_iand (pc := 115) hx hb d_M_calculate_115 ?_
  refine lv_iload (pc := 116) hx hb d_M_calculate_116 (lv_at hl 1 rfl) ?_
  refine lv_iload (pc := 118) hx hb d_M_calculate_118 (lv_at hl 2 rfl) ?_
  refine rsI (pc := 120) hw (rnS (pc := 120) xtC fx hw (c_M_skips h _) cw_M_160 rfl ⟨Nat.le_of_ble_eq_true rfl, Nat.le_of_ble_eq_true rfl⟩ hl.1 (Nat.le_of_ble_eq_true rfl) d_M_calculate_120 ⟨Nat.zero_le _, Nat.zero_le _⟩) (fun r_2 σ_1 H locs hw h => ?_)
  have zr_2 := h.1
  replace h := h.2
  exact HR (bz_n zr_2) d_M_calculate_123 ⟨zr_2, h⟩ hw
set_option maxHeartbeats 4000000 in
set_option maxRecDepth 100000 in
theorem e_M_calculate (fx : CallFix p m c b_M_calculate 9 s args GW RNM) {post : Int32 → SS → Prop} (HR : RetI p l e r_M_calculate s m args below meth c Q D vcl (tyl cA) (wC cA a) (XC ad) A b_M_calculate .boolean (fun r σ => bz r ∧ post r σ)) {σ : SS} {x1 : Int32} {H : Heap} {locs : List Loc} {ls : Array Slot} (h : f_M_calculate post σ x1) (hw : CX D vcl (tyl cA) (wC cA a σ) (XC ad) A s H locs) (hl : lv_has ls 9 [(0, .ref (a 1)), (1, .int x1)]) : W p l e r_M_calculate s m args below meth c H locs 0 0 Q (F0 m 0 ls []) := by
  have hx := fx.1
  have hb := fx.2.1
  unfold f_M_calculate at h
  refine lv_iload_n (pc := 0) hx hb d_M_calculate_0 rfl (lv_at hl 1 rfl) ?_
  refine lv_bipush (pc := 1) (v := 11) hx hb d_M_calculate_1 (by decide) ?_
  refine lv_ishr (pc := 3) hx hb d_M_calculate_3 ?_
  refine lv_iconst (pc := 4) (v := 3) hx hb d_M_calculate_4 (by decide) ?_
  refine lv_iand (pc := 5) hx hb d_M_calculate_5 ?_
  refine lv_topi (fun x2_3 e9 => ?_)
  replace h := nm_u h e9
  clear e9
  refine lv_istore_n (pc := 6) (lv' := [(2, .int x2_3), (0, .ref (a 1)), (1, .int x1)]) hx hb d_M_calculate_6 rfl hl (by decide) rfl (fun ls hl => ?_)
  refine lv_aload_n (pc := 7) hx hb d_M_calculate_7 rfl (lv_at hl 1 rfl) ?_
  refine gC_1_accumulators (pc := 8) fx hw kw_123 d_M_calculate_8 ?_
  refine lv_iload_n (pc := 11) hx hb d_M_calculate_11 rfl (lv_at hl 2 rfl) ?_
  refine lv_bipush (pc := 12) (v := 13) hx hb d_M_calculate_12 (by decide) ?_
  refine lv_ishr (pc := 14) hx hb d_M_calculate_14 ?_
  refine lv_iconst (pc := 15) (v := 3) hx hb d_M_calculate_15 (by decide) ?_
  refine lv_iand (pc := 16) hx hb d_M_calculate_16 ?_
  refine alC_3 (pc := 17) fx hw h.1 d_M_calculate_17 ?_
  replace h := h.2
  refine lv_topi (fun x3_4 e9 => ?_)
  replace h := nm_u h e9
  clear e9
  refine lv_istore_n (pc := 18) (lv' := [(3, .int x3_4), (2, .int x2_3), (0, .ref (a 1)), (1, .int x1)]) hx hb d_M_calculate_18 rfl hl (by decide) rfl (fun ls hl => ?_)
  refine lv_iload_n (pc := 19) hx hb d_M_calculate_19 rfl (lv_at hl 3 rfl) ?_
  refine lv_bipush (pc := 20) (v := 8) hx hb d_M_calculate_20 (by decide) ?_
  refine lv_ishr (pc := 22) hx hb d_M_calculate_22 ?_
  refine lv_bipush (pc := 23) (v := 7) hx hb d_M_calculate_23 (by decide) ?_
  refine lv_iand (pc := 25) hx hb d_M_calculate_25 ?_
  refine lv_iload_n (pc := 26) hx hb d_M_calculate_26 rfl (lv_at hl 0 rfl) ?_
  refine lv_aload_n (pc := 27) hx hb d_M_calculate_27 rfl (lv_at hl 2 rfl) ?_
  refine gC_1_accumulators (pc := 28) fx hw kw_123 d_M_calculate_28 ?_
  refine lv_iload_n (pc := 31) hx hb d_M_calculate_31 rfl (lv_at hl 1 rfl) ?_
  refine alC_3 (pc := 32) fx hw h.1 d_M_calculate_32 ?_
  replace h := h.2
  refine rsI (pc := 33) hw (rnS (pc := 33) xtC fx hw (c_M_sumOf h _) cw_M_150 rfl ⟨Nat.le_of_ble_eq_true rfl, Nat.le_of_ble_eq_true rfl⟩ hl.1 (Nat.le_of_ble_eq_true rfl) d_M_calculate_33 ⟨Nat.zero_le _, Nat.zero_le _⟩) (fun r_6 σ_5 H locs hw h => ?_)
  refine lv_istore (pc := 36) (lv' := [(4, .int r_6), (3, .int x3_4), (2, .int x2_3), (0, .ref (a 1)), (1, .int x1)]) hx hb d_M_calculate_36 hl (by decide) rfl (fun ls hl => ?_)
  refine lv_aload_n (pc := 38) hx hb d_M_calculate_38 rfl (lv_at hl 3 rfl) ?_
  refine lv_iload_n (pc := 39) hx hb d_M_calculate_39 rfl (lv_at hl 4 rfl) ?_
  refine lv_iconst (pc := 40) (v := 4) hx hb d_M_calculate_40 (by decide) ?_
  refine lv_ishr (pc := 41) hx hb d_M_calculate_41 ?_
  refine lv_iconst (pc := 42) (v := 3) hx hb d_M_calculate_42 (by decide) ?_
  refine lv_iand (pc := 43) hx hb d_M_calculate_43 ?_
  refine rsI (pc := 44) hw (rnV (pc := 44) xtC fx hw (c_M_baseOf h _) cw_M_154 (rcC_1 hw) rfl ⟨Nat.le_of_ble_eq_true rfl, Nat.le_of_ble_eq_true rfl⟩ hl.1 (Nat.le_of_ble_eq_true rfl) d_M_calculate_44 ⟨Nat.zero_le _, Nat.zero_le _⟩) (fun r_8 σ_7 H locs hw h => ?_)
  refine lv_iload (pc := 47) hx hb d_M_calculate_47 (lv_at hl 0 rfl) ?_
  refine lv_bipush (pc := 49) (v := 16) hx hb d_M_calculate_49 (by decide) ?_
  refine lv_ishr (pc := 51) hx hb d_M_calculate_51 ?_
  refine lv_ixor (pc := 52) hx hb d_M_calculate_52 ?_
  refine lv_topi (fun x5_9 e9 => ?_)
  replace h := nm_u h e9
  clear e9
  refine lv_istore (pc := 53) (lv' := [(5, .int x5_9), (4, .int r_6), (3, .int x3_4), (2, .int x2_3), (0, .ref (a 1)), (1, .int x1)]) hx hb d_M_calculate_53 hl (by decide) rfl (fun ls hl => ?_)
  refine lv_iload_n (pc := 55) hx hb d_M_calculate_55 rfl (lv_at hl 5 rfl) ?_
  refine lv_bipush (pc := 56) (v := 6) hx hb d_M_calculate_56 (by decide) ?_
  refine lv_ishr (pc := 58) hx hb d_M_calculate_58 ?_
  refine lv_iconst (pc := 59) (v := 3) hx hb d_M_calculate_59 (by decide) ?_
  refine lv_iand (pc := 60) hx hb d_M_calculate_60 ?_
  refine lv_iload (pc := 61) hx hb d_M_calculate_61 (lv_at hl 0 rfl) ?_
  refine lv_bipush (pc := 63) (v := 16) hx hb d_M_calculate_63 (by decide) ?_
  refine lv_ishl (pc := 65) hx hb d_M_calculate_65 ?_
  refine lv_iload (pc := 66) hx hb d_M_calculate_66 (lv_at hl 1 rfl) ?_
  refine lv_ldc (pc := 68) (v := 65535) hx hb fx.2.2.2.1 (fx.2.2.2.2 _ kw_848) d_M_calculate_68 ?_
  refine lv_iand (pc := 70) hx hb d_M_calculate_70 ?_
  refine lv_ior (pc := 71) hx hb d_M_calculate_71 ?_
  refine rsI (pc := 72) hw (rnS (pc := 72) xtC fx hw (c_M_shift h _) cw_M_157 rfl ⟨Nat.le_of_ble_eq_true rfl, Nat.le_of_ble_eq_true rfl⟩ hl.1 (Nat.le_of_ble_eq_true rfl) d_M_calculate_72 ⟨Nat.zero_le _, Nat.zero_le _⟩) (fun r_11 σ_10 H locs hw h => ?_)
  refine lv_istore (pc := 75) (lv' := [(6, .int r_11), (5, .int x5_9), (4, .int r_6), (3, .int x3_4), (2, .int x2_3), (0, .ref (a 1)), (1, .int x1)]) hx hb d_M_calculate_75 hl (by decide) rfl (fun ls hl => ?_)
  refine lv_iload (pc := 77) hx hb d_M_calculate_77 (lv_at hl 0 rfl) ?_
  refine lv_bipush (pc := 79) (v := 16) hx hb d_M_calculate_79 (by decide) ?_
  refine lv_ishr (pc := 81) hx hb d_M_calculate_81 ?_
  refine lv_topi (fun x7_12 e9 => ?_)
  replace h := nm_u h e9
  clear e9
  refine lv_istore (pc := 82) (lv' := [(7, .int x7_12), (6, .int r_11), (5, .int x5_9), (4, .int r_6), (3, .int x3_4), (2, .int x2_3), (0, .ref (a 1)), (1, .int x1)]) hx hb d_M_calculate_82 hl (by decide) rfl (fun ls hl => ?_)
  refine lv_iload (pc := 84) hx hb d_M_calculate_84 (lv_at hl 1 rfl) ?_
  refine lv_ldc (pc := 86) (v := 65535) hx hb fx.2.2.2.1 (fx.2.2.2.2 _ kw_848) d_M_calculate_86 ?_
  refine lv_iand (pc := 88) hx hb d_M_calculate_88 ?_
  refine lv_topi (fun x8_13 e9 => ?_)
  replace h := nm_u h e9
  clear e9
  refine lv_istore (pc := 89) (lv' := [(8, .int x8_13), (7, .int x7_12), (6, .int r_11), (5, .int x5_9), (4, .int r_6), (3, .int x3_4), (2, .int x2_3), (0, .ref (a 1)), (1, .int x1)]) hx hb d_M_calculate_89 hl (by decide) rfl (fun ls hl => ?_)
  refine lv_iload_n (pc := 91) hx hb d_M_calculate_91 rfl (lv_at hl 8 rfl) ?_
  refine lv_bipush (pc := 92) (v := 8) hx hb d_M_calculate_92 (by decide) ?_
  refine lv_iand (pc := 94) hx hb d_M_calculate_94 ?_
  refine lv_if_ne (pc := 95) (tgt := 112) hx hb d_M_calculate_95 (by decide) (fun c9 => ?_) (fun c9 => ?_)
  · replace h := h.2 c9
    exact c_M_calculate_112  fx HR h hw (lv_sub hl [8, 1, 0] rfl)
  · replace h := h.1 c9
    refine lv_aload_n (pc := 98) hx hb d_M_calculate_98 rfl (lv_at hl 7 rfl) ?_
    refine gC_1_accumulators (pc := 99) fx hw kw_123 d_M_calculate_99 ?_
    refine lv_iload_n (pc := 102) hx hb d_M_calculate_102 rfl (lv_at hl 6 rfl) ?_
    refine lv_iload (pc := 103) hx hb d_M_calculate_103 (lv_at hl 0 rfl) ?_
    refine asC_3 (pc := 105) fx hw h.1 d_M_calculate_105 (fun σ_14 e9 H locs hw => ?_)
    replace h := nm_u h.2 e9
    clear e9
    refine lv_aload_n (pc := 106) hx hb d_M_calculate_106 rfl (lv_at hl 7 rfl) ?_
    refine lv_iload (pc := 107) hx hb d_M_calculate_107 (lv_at hl 1 rfl) ?_
    refine pC_1_carry (pc := 109) fx hw kw_129 d_M_calculate_109 (fun σ_15 e9 H locs hw => ?_)
    replace h := nm_u h e9
    clear e9
    exact c_M_calculate_112  fx HR h hw (lv_sub hl [8, 1, 0] rfl)
end
theorem c_M_calculate {l : Launch} {D : va_G} {cA : Nat → ClassId} {a : Nat → Nat} {ad : Nat → Nat → Nat} {σ : SS} {post : Int32 → SS → Prop} {x1 : Int32} (h : f_M_calculate post σ x1) : mI l y_M_calculate b_M_calculate 9 (some .boolean) 1 23 D vcl (tyl cA) (wC cA a) (XC ad) σ [.ref (a 1), .int x1] (fun r σ => bz r ∧ post r σ) := met_I (by decide) (Nat.le_of_ble_eq_true rfl) (fun p e s m args below meth c A Q fx HR H ls hw hl => e_M_calculate  fx HR h hw hl)
abbrev r_M_perform : Room := { frames := 4, cells := 0, slots := 0, locals := 93 }
def f_M_perform (post : Int32 → SS → Prop) (σ : SS) (x1 : Int32) : Prop := br (x1 < 32768) (br (x1 < 24576) (f_M_addressOf (fun r_2 σ_1 => br (r_2 = (-1)) (post 0 σ_1) (f_M_useMemory (fun σ_3 => post 1 σ_3) σ_1 (x1 >>> ((11 : Int32) &&& 31)) r_2)) σ x1) (f_M_operate (fun r_6 σ_5 => f_M_goOn (fun σ_7 => post 1 σ_7) σ_5 r_6) σ x1)) (f_M_calculate (fun r_10 σ_9 => f_M_goOn (fun σ_11 => post 1 σ_11) σ_9 r_10) σ x1)
section
variable {p : Program} {l : Launch} {e : Env} {s : State} {m : MethodId} {args : Array Value} {below : List Frame} {meth : Method} {c : Code} {Q : State → Prop} {D : va_G} {cA : Nat → ClassId} {a : Nat → Nat} {ad : Nat → Nat → Nat} {A : Nat → Prop}
set_option maxHeartbeats 4000000 in
set_option maxRecDepth 100000 in
theorem e_M_perform (fx : CallFix p m c b_M_perform 3 s args GW RNM) {post : Int32 → SS → Prop} (HR : RetI p l e r_M_perform s m args below meth c Q D vcl (tyl cA) (wC cA a) (XC ad) A b_M_perform .boolean (fun r σ => bz r ∧ post r σ)) {σ : SS} {x1 : Int32} {H : Heap} {locs : List Loc} {ls : Array Slot} (h : f_M_perform post σ x1) (hw : CX D vcl (tyl cA) (wC cA a σ) (XC ad) A s H locs) (hl : lv_has ls 3 [(0, .ref (a 1)), (1, .int x1)]) : W p l e r_M_perform s m args below meth c H locs 0 0 Q (F0 m 0 ls []) := by
  have hx := fx.1
  have hb := fx.2.1
  unfold f_M_perform at h
  refine lv_iload_n (pc := 0) hx hb d_M_perform_0 rfl (lv_at hl 1 rfl) ?_
  refine lv_ldc (pc := 1) (v := 32768) hx hb fx.2.2.2.1 (fx.2.2.2.2 _ kw_40) d_M_perform_1 ?_
  refine lv_icmp_lt (pc := 3) (tgt := 17) hx hb d_M_perform_3 (by decide) (fun c9 => ?_) (fun c9 => ?_)
  · replace h := h.1 c9
    refine lv_iload_n (pc := 17) hx hb d_M_perform_17 rfl (lv_at hl 1 rfl) ?_
    refine lv_sipush (pc := 18) (v := 24576) hx hb d_M_perform_18 (by decide) ?_
    refine lv_icmp_lt (pc := 21) (tgt := 35) hx hb d_M_perform_21 (by decide) (fun c9 => ?_) (fun c9 => ?_)
    · replace h := h.1 c9
      refine lv_aload_n (pc := 35) hx hb d_M_perform_35 rfl (lv_at hl 0 rfl) ?_
      refine lv_iload_n (pc := 36) hx hb d_M_perform_36 rfl (lv_at hl 1 rfl) ?_
      refine rsI (pc := 37) hw (rnV (pc := 37) xtC fx hw (c_M_addressOf h _) cw_M_133 (rcC_1 hw) rfl ⟨Nat.le_of_ble_eq_true rfl, Nat.le_of_ble_eq_true rfl⟩ hl.1 (Nat.le_of_ble_eq_true rfl) d_M_perform_37 ⟨Nat.zero_le _, Nat.zero_le _⟩) (fun r_2 σ_1 H locs hw h => ?_)
      refine lv_istore_n (pc := 40) (lv' := [(2, .int r_2), (0, .ref (a 1)), (1, .int x1)]) hx hb d_M_perform_40 rfl hl (by decide) rfl (fun ls hl => ?_)
      refine lv_iload_n (pc := 41) hx hb d_M_perform_41 rfl (lv_at hl 0 rfl) ?_
      refine lv_iconst (pc := 42) (v := (-1)) hx hb d_M_perform_42 (by decide) ?_
      refine lv_icmp_ne (pc := 43) (tgt := 48) hx hb d_M_perform_43 (by decide) (fun c9 => ?_) (fun c9 => ?_)
      · replace h := h.2 c9
        refine lv_aload_n (pc := 48) hx hb d_M_perform_48 rfl (lv_at hl 1 rfl) ?_
        refine lv_iload_n (pc := 49) hx hb d_M_perform_49 rfl (lv_at hl 2 rfl) ?_
        refine lv_bipush (pc := 50) (v := 11) hx hb d_M_perform_50 (by decide) ?_
        refine lv_ishr (pc := 52) hx hb d_M_perform_52 ?_
        refine lv_iload_n (pc := 53) hx hb d_M_perform_53 rfl (lv_at hl 0 rfl) ?_
        refine rsV (pc := 54) hw (rnV (pc := 54) xtC fx hw (c_M_useMemory h _) cw_M_136 (rcC_1 hw) rfl ⟨Nat.le_of_ble_eq_true rfl, Nat.le_of_ble_eq_true rfl⟩ hl.1 (Nat.le_of_ble_eq_true rfl) d_M_perform_54 ⟨Nat.zero_le _, Nat.zero_le _⟩) (fun σ_3 H locs hw h => ?_)
        refine lv_iconst (pc := 57) (v := 1) hx hb d_M_perform_57 (by decide) ?_
        exact HR (bz_n bz_1) d_M_perform_58 ⟨bz_1, h⟩ hw
      · replace h := h.1 c9
        refine lv_iconst (pc := 46) (v := 0) hx hb d_M_perform_46 (by decide) ?_
        exact HR (bz_n bz_0) d_M_perform_47 ⟨bz_0, h⟩ hw
    · replace h := h.2 c9
      refine lv_aload_n (pc := 24) hx hb d_M_perform_24 rfl (lv_at hl 0 rfl) ?_
      refine lv_aload_n (pc := 25) hx hb d_M_perform_25 rfl (lv_at hl 0 rfl) ?_
      refine lv_iload_n (pc := 26) hx hb d_M_perform_26 rfl (lv_at hl 1 rfl) ?_
      refine rsI (pc := 27) hw (rnV (pc := 27) xtC fx hw (c_M_operate h _) cw_M_130 (rcC_1 hw) rfl ⟨Nat.le_of_ble_eq_true rfl, Nat.le_of_ble_eq_true rfl⟩ hl.1 (Nat.le_of_ble_eq_true rfl) d_M_perform_27 ⟨Nat.zero_le _, Nat.zero_le _⟩) (fun r_6 σ_5 H locs hw h => ?_)
      have zr_6 := h.1
      replace h := h.2
      refine rsV (pc := 30) hw (rnV (pc := 30) xtC fx hw (c_M_goOn h _) cw_M_126 (rcC_1 hw) rfl ⟨Nat.le_of_ble_eq_true rfl, Nat.le_of_ble_eq_true rfl⟩ hl.1 (Nat.le_of_ble_eq_true rfl) d_M_perform_30 ⟨Nat.zero_le _, Nat.zero_le _⟩) (fun σ_7 H locs hw h => ?_)
      refine lv_iconst (pc := 33) (v := 1) hx hb d_M_perform_33 (by decide) ?_
      exact HR (bz_n bz_1) d_M_perform_34 ⟨bz_1, h⟩ hw
  · replace h := h.2 c9
    refine lv_aload_n (pc := 6) hx hb d_M_perform_6 rfl (lv_at hl 0 rfl) ?_
    refine lv_aload_n (pc := 7) hx hb d_M_perform_7 rfl (lv_at hl 0 rfl) ?_
    refine lv_iload_n (pc := 8) hx hb d_M_perform_8 rfl (lv_at hl 1 rfl) ?_
    refine rsI (pc := 9) hw (rnV (pc := 9) xtC fx hw (c_M_calculate h _) cw_M_123 (rcC_1 hw) rfl ⟨Nat.le_of_ble_eq_true rfl, Nat.le_of_ble_eq_true rfl⟩ hl.1 (Nat.le_of_ble_eq_true rfl) d_M_perform_9 ⟨Nat.zero_le _, Nat.zero_le _⟩) (fun r_10 σ_9 H locs hw h => ?_)
    have zr_10 := h.1
    replace h := h.2
    refine rsV (pc := 12) hw (rnV (pc := 12) xtC fx hw (c_M_goOn h _) cw_M_126 (rcC_1 hw) rfl ⟨Nat.le_of_ble_eq_true rfl, Nat.le_of_ble_eq_true rfl⟩ hl.1 (Nat.le_of_ble_eq_true rfl) d_M_perform_12 ⟨Nat.zero_le _, Nat.zero_le _⟩) (fun σ_11 H locs hw h => ?_)
    refine lv_iconst (pc := 15) (v := 1) hx hb d_M_perform_15 (by decide) ?_
    exact HR (bz_n bz_1) d_M_perform_16 ⟨bz_1, h⟩ hw
end
theorem c_M_perform {l : Launch} {D : va_G} {cA : Nat → ClassId} {a : Nat → Nat} {ad : Nat → Nat → Nat} {σ : SS} {post : Int32 → SS → Prop} {x1 : Int32} (h : f_M_perform post σ x1) : mI l y_M_perform b_M_perform 3 (some .boolean) 4 93 D vcl (tyl cA) (wC cA a) (XC ad) σ [.ref (a 1), .int x1] (fun r σ => bz r ∧ post r σ) := met_I (by decide) (Nat.le_of_ble_eq_true rfl) (fun p e s m args below meth c A Q fx HR H ls hw hl => e_M_perform  fx HR h hw hl)
abbrev r_M_letsIn : Room := { frames := 0, cells := 0, slots := 0, locals := 0 }
def f_M_letsIn_32 (post : Int32 → SS → Prop) (σ : SS) (x0 : Int32) (x1 : Int32) (s0 : Int32) : Prop := br (x1 = 0) (post 0 σ) (br (s0 = 0) (br (((x0 >>> ((6 : Int32) &&& 31)) &&& 3) = 1) (post 1 σ) (post 0 σ)) (post 0 σ))
def f_M_letsIn_15 (post : Int32 → SS → Prop) (σ : SS) (x0 : Int32) (s0 : Int32) : Prop := br ((x0 &&& 1792) = 1792) (f_M_letsIn_32 post σ x0 s0 1) (f_M_letsIn_32 post σ x0 s0 0)
def f_M_letsIn (post : Int32 → SS → Prop) (σ : SS) (x0 : Int32) : Prop := br ((x0 &&& 57407) = 24639) (f_M_letsIn_15 post σ x0 1) (f_M_letsIn_15 post σ x0 0)
section
variable {p : Program} {l : Launch} {e : Env} {s : State} {m : MethodId} {args : Array Value} {below : List Frame} {meth : Method} {c : Code} {Q : State → Prop} {D : va_G} {cA : Nat → ClassId} {a : Nat → Nat} {ad : Nat → Nat → Nat} {A : Nat → Prop}
set_option maxHeartbeats 4000000 in
set_option maxRecDepth 100000 in
theorem c_M_letsIn_32 (fx : CallFix p m c b_M_letsIn 3 s args GW RNM) {post : Int32 → SS → Prop} (HR : RetI p l e r_M_letsIn s m args below meth c Q D vcl (tyl cA) (wC cA a) (XC ad) A b_M_letsIn .boolean (fun r σ => bz r ∧ post r σ)) {σ : SS} {x0 : Int32} {x1 : Int32} {s0 : Int32} {H : Heap} {locs : List Loc} {ls : Array Slot} (h : f_M_letsIn_32 post σ x0 x1 s0) (hw : CX D vcl (tyl cA) (wC cA a σ) (XC ad) A s H locs) (hl : lv_has ls 3 [(0, .int x0), (1, .int x1)]) : W p l e r_M_letsIn s m args below meth c H locs 0 0 Q (F0 m 32 ls [.int s0]) := by
  have hx := fx.1
  have hb := fx.2.1
  unfold f_M_letsIn_32 at h
  refine lv_istore_n (pc := 32) (lv' := [(2, .int s0), (0, .int x0), (1, .int x1)]) hx hb d_M_letsIn_32 rfl hl (by decide) rfl (fun ls hl => ?_)
  refine lv_iload_n (pc := 33) hx hb d_M_letsIn_33 rfl (lv_at hl 2 rfl) ?_
  refine lv_if_eq (pc := 34) (tgt := 55) hx hb d_M_letsIn_34 (by decide) (fun c9 => ?_) (fun c9 => ?_)
  · replace h := h.1 c9
    refine lv_iconst (pc := 55) (v := 0) hx hb d_M_letsIn_55 (by decide) ?_
    exact HR (bz_n bz_0) d_M_letsIn_56 ⟨bz_0, h⟩ hw
  · replace h := h.2 c9
    refine lv_iload_n (pc := 37) hx hb d_M_letsIn_37 rfl (lv_at hl 0 rfl) ?_
    refine lv_if_ne (pc := 38) (tgt := 55) hx hb d_M_letsIn_38 (by decide) (fun c9 => ?_) (fun c9 => ?_)
    · replace h := h.2 c9
      refine lv_iconst (pc := 55) (v := 0) hx hb d_M_letsIn_55 (by decide) ?_
      exact HR (bz_n bz_0) d_M_letsIn_56 ⟨bz_0, h⟩ hw
    · replace h := h.1 c9
      refine lv_iload_n (pc := 41) hx hb d_M_letsIn_41 rfl (lv_at hl 1 rfl) ?_
      refine lv_bipush (pc := 42) (v := 6) hx hb d_M_letsIn_42 (by decide) ?_
      refine lv_ishr (pc := 44) hx hb d_M_letsIn_44 ?_
      refine lv_iconst (pc := 45) (v := 3) hx hb d_M_letsIn_45 (by decide) ?_
      refine lv_iand (pc := 46) hx hb d_M_letsIn_46 ?_
      refine lv_iconst (pc := 47) (v := 1) hx hb d_M_letsIn_47 (by decide) ?_
      refine lv_icmp_ne (pc := 48) (tgt := 55) hx hb d_M_letsIn_48 (by decide) (fun c9 => ?_) (fun c9 => ?_)
      · replace h := h.2 c9
        refine lv_iconst (pc := 55) (v := 0) hx hb d_M_letsIn_55 (by decide) ?_
        exact HR (bz_n bz_0) d_M_letsIn_56 ⟨bz_0, h⟩ hw
      · replace h := h.1 c9
        refine lv_iconst (pc := 51) (v := 1) hx hb d_M_letsIn_51 (by decide) ?_
        refine lv_goto (pc := 52) (tgt := 56) hx hb d_M_letsIn_52 (by decide) ?_
        exact HR (bz_n bz_1) d_M_letsIn_56 ⟨bz_1, h⟩ hw
set_option maxHeartbeats 4000000 in
set_option maxRecDepth 100000 in
theorem c_M_letsIn_15 (fx : CallFix p m c b_M_letsIn 3 s args GW RNM) {post : Int32 → SS → Prop} (HR : RetI p l e r_M_letsIn s m args below meth c Q D vcl (tyl cA) (wC cA a) (XC ad) A b_M_letsIn .boolean (fun r σ => bz r ∧ post r σ)) {σ : SS} {x0 : Int32} {s0 : Int32} {H : Heap} {locs : List Loc} {ls : Array Slot} (h : f_M_letsIn_15 post σ x0 s0) (hw : CX D vcl (tyl cA) (wC cA a σ) (XC ad) A s H locs) (hl : lv_has ls 3 [(0, .int x0)]) : W p l e r_M_letsIn s m args below meth c H locs 0 0 Q (F0 m 15 ls [.int s0]) := by
  have hx := fx.1
  have hb := fx.2.1
  unfold f_M_letsIn_15 at h
  refine lv_istore_n (pc := 15) (lv' := [(1, .int s0), (0, .int x0)]) hx hb d_M_letsIn_15 rfl hl (by decide) rfl (fun ls hl => ?_)
  refine lv_iload_n (pc := 16) hx hb d_M_letsIn_16 rfl (lv_at hl 1 rfl) ?_
  refine lv_sipush (pc := 17) (v := 1792) hx hb d_M_letsIn_17 (by decide) ?_
  refine lv_iand (pc := 20) hx hb d_M_letsIn_20 ?_
  refine lv_sipush (pc := 21) (v := 1792) hx hb d_M_letsIn_21 (by decide) ?_
  refine lv_icmp_ne (pc := 24) (tgt := 31) hx hb d_M_letsIn_24 (by decide) (fun c9 => ?_) (fun c9 => ?_)
  · replace h := h.2 c9
    refine lv_iconst (pc := 31) (v := 0) hx hb d_M_letsIn_31 (by decide) ?_
    exact c_M_letsIn_32  fx HR h hw (lv_sub hl [1, 0] rfl)
  · replace h := h.1 c9
    refine lv_iconst (pc := 27) (v := 1) hx hb d_M_letsIn_27 (by decide) ?_
    refine lv_goto (pc := 28) (tgt := 32) hx hb d_M_letsIn_28 (by decide) ?_
    exact c_M_letsIn_32  fx HR h hw (lv_sub hl [1, 0] rfl)
set_option maxHeartbeats 4000000 in
set_option maxRecDepth 100000 in
theorem e_M_letsIn (fx : CallFix p m c b_M_letsIn 3 s args GW RNM) {post : Int32 → SS → Prop} (HR : RetI p l e r_M_letsIn s m args below meth c Q D vcl (tyl cA) (wC cA a) (XC ad) A b_M_letsIn .boolean (fun r σ => bz r ∧ post r σ)) {σ : SS} {x0 : Int32} {H : Heap} {locs : List Loc} {ls : Array Slot} (h : f_M_letsIn post σ x0) (hw : CX D vcl (tyl cA) (wC cA a σ) (XC ad) A s H locs) (hl : lv_has ls 3 [(0, .int x0)]) : W p l e r_M_letsIn s m args below meth c H locs 0 0 Q (F0 m 0 ls []) := by
  have hx := fx.1
  have hb := fx.2.1
  unfold f_M_letsIn at h
  refine lv_iload_n (pc := 0) hx hb d_M_letsIn_0 rfl (lv_at hl 0 rfl) ?_
  refine lv_ldc (pc := 1) (v := 57407) hx hb fx.2.2.2.1 (fx.2.2.2.2 _ kw_944) d_M_letsIn_1 ?_
  refine lv_iand (pc := 3) hx hb d_M_letsIn_3 ?_
  refine lv_sipush (pc := 4) (v := 24639) hx hb d_M_letsIn_4 (by decide) ?_
  refine lv_icmp_ne (pc := 7) (tgt := 14) hx hb d_M_letsIn_7 (by decide) (fun c9 => ?_) (fun c9 => ?_)
  · replace h := h.2 c9
    refine lv_iconst (pc := 14) (v := 0) hx hb d_M_letsIn_14 (by decide) ?_
    exact c_M_letsIn_15  fx HR h hw (lv_sub hl [0] rfl)
  · replace h := h.1 c9
    refine lv_iconst (pc := 10) (v := 1) hx hb d_M_letsIn_10 (by decide) ?_
    refine lv_goto (pc := 11) (tgt := 15) hx hb d_M_letsIn_11 (by decide) ?_
    exact c_M_letsIn_15  fx HR h hw (lv_sub hl [0] rfl)
end
theorem c_M_letsIn {l : Launch} {D : va_G} {cA : Nat → ClassId} {a : Nat → Nat} {ad : Nat → Nat → Nat} {σ : SS} {post : Int32 → SS → Prop} {x0 : Int32} (h : f_M_letsIn post σ x0) : mI l y_M_letsIn b_M_letsIn 3 (some .boolean) 0 0 D vcl (tyl cA) (wC cA a) (XC ad) σ [.int x0] (fun r σ => bz r ∧ post r σ) := met_I (by decide) (Nat.le_of_ble_eq_true rfl) (fun p e s m args below meth c A Q fx HR H ls hw hl => e_M_letsIn  fx HR h hw hl)
abbrev r_M_interrupt : Room := { frames := 3, cells := 0, slots := 0, locals := 69 }
def f_M_interrupt (post : Int32 → SS → Prop) (σ : SS) : Prop := nm (sI σ 7 ((σ.1 7) + 1)) fun σ_1 => f_M_store (fun σ_2 => nm (sI σ_2 4 0) fun σ_4 => f_M_endOfRow (fun r_6 σ_5 => br (r_6 = (-1)) (post 0 σ_5) (nm (sI σ_5 1 r_6) fun σ_7 => post 1 σ_7)) σ_4 1) σ_1 0 (σ_1.1 1)
section
variable {p : Program} {l : Launch} {e : Env} {s : State} {m : MethodId} {args : Array Value} {below : List Frame} {meth : Method} {c : Code} {Q : State → Prop} {D : va_G} {cA : Nat → ClassId} {a : Nat → Nat} {ad : Nat → Nat → Nat} {A : Nat → Prop}
set_option maxHeartbeats 4000000 in
set_option maxRecDepth 100000 in
theorem e_M_interrupt (fx : CallFix p m c b_M_interrupt 2 s args GW RNM) {post : Int32 → SS → Prop} (HR : RetI p l e r_M_interrupt s m args below meth c Q D vcl (tyl cA) (wC cA a) (XC ad) A b_M_interrupt .boolean (fun r σ => bz r ∧ post r σ)) {σ : SS} {H : Heap} {locs : List Loc} {ls : Array Slot} (h : f_M_interrupt post σ) (hw : CX D vcl (tyl cA) (wC cA a σ) (XC ad) A s H locs) (hl : lv_has ls 2 [(0, .ref (a 1))]) : W p l e r_M_interrupt s m args below meth c H locs 0 0 Q (F0 m 0 ls []) := by
  have hx := fx.1
  have hb := fx.2.1
  unfold f_M_interrupt at h
  refine lv_aload_n (pc := 0) hx hb d_M_interrupt_0 rfl (lv_at hl 0 rfl) ?_
  refine lv_dup (pc := 1) hx hb d_M_interrupt_1 rfl ?_
  refine gC_1_interrupts (pc := 2) fx hw kw_136 d_M_interrupt_2 ?_
  refine lv_iconst (pc := 5) (v := 1) hx hb d_M_interrupt_5 (by decide) ?_
  refine lv_iadd (pc := 6) hx hb d_M_interrupt_6 ?_
  refine pC_1_interrupts (pc := 7) fx hw kw_136 d_M_interrupt_7 (fun σ_1 e9 H locs hw => ?_)
  replace h := nm_u h e9
  clear e9
  refine lv_aload_n (pc := 10) hx hb d_M_interrupt_10 rfl (lv_at hl 0 rfl) ?_
  refine lv_iconst (pc := 11) (v := 0) hx hb d_M_interrupt_11 (by decide) ?_
  refine lv_aload_n (pc := 12) hx hb d_M_interrupt_12 rfl (lv_at hl 0 rfl) ?_
  refine gC_1_pc (pc := 13) fx hw kw_130 d_M_interrupt_13 ?_
  refine rsV (pc := 16) hw (rnV (pc := 16) xtC fx hw (c_M_store h _) cw_M_116 (rcC_1 hw) rfl ⟨Nat.le_of_ble_eq_true rfl, Nat.le_of_ble_eq_true rfl⟩ hl.1 (Nat.le_of_ble_eq_true rfl) d_M_interrupt_16 ⟨Nat.zero_le _, Nat.zero_le _⟩) (fun σ_2 H locs hw h => ?_)
  refine lv_aload_n (pc := 19) hx hb d_M_interrupt_19 rfl (lv_at hl 0 rfl) ?_
  refine lv_iconst (pc := 20) (v := 0) hx hb d_M_interrupt_20 (by decide) ?_
  refine pC_1_ion (pc := 21) fx hw kw_133 bz_0 d_M_interrupt_21 (fun σ_4 e9 H locs hw => ?_)
  replace h := nm_u h e9
  clear e9
  refine lv_aload_n (pc := 24) hx hb d_M_interrupt_24 rfl (lv_at hl 0 rfl) ?_
  refine lv_iconst (pc := 25) (v := 1) hx hb d_M_interrupt_25 (by decide) ?_
  refine rsI (pc := 26) hw (rnV (pc := 26) xtC fx hw (c_M_endOfRow h _) cw_M_120 (rcC_1 hw) rfl ⟨Nat.le_of_ble_eq_true rfl, Nat.le_of_ble_eq_true rfl⟩ hl.1 (Nat.le_of_ble_eq_true rfl) d_M_interrupt_26 ⟨Nat.zero_le _, Nat.zero_le _⟩) (fun r_6 σ_5 H locs hw h => ?_)
  refine lv_istore_n (pc := 29) (lv' := [(1, .int r_6), (0, .ref (a 1))]) hx hb d_M_interrupt_29 rfl hl (by decide) rfl (fun ls hl => ?_)
  refine lv_iload_n (pc := 30) hx hb d_M_interrupt_30 rfl (lv_at hl 0 rfl) ?_
  refine lv_iconst (pc := 31) (v := (-1)) hx hb d_M_interrupt_31 (by decide) ?_
  refine lv_icmp_ne (pc := 32) (tgt := 37) hx hb d_M_interrupt_32 (by decide) (fun c9 => ?_) (fun c9 => ?_)
  · replace h := h.2 c9
    refine lv_aload_n (pc := 37) hx hb d_M_interrupt_37 rfl (lv_at hl 1 rfl) ?_
    refine lv_iload_n (pc := 38) hx hb d_M_interrupt_38 rfl (lv_at hl 0 rfl) ?_
    refine pC_1_pc (pc := 39) fx hw kw_130 d_M_interrupt_39 (fun σ_7 e9 H locs hw => ?_)
    replace h := nm_u h e9
    clear e9
    refine lv_iconst (pc := 42) (v := 1) hx hb d_M_interrupt_42 (by decide) ?_
    exact HR (bz_n bz_1) d_M_interrupt_43 ⟨bz_1, h⟩ hw
  · replace h := h.1 c9
    refine lv_iconst (pc := 35) (v := 0) hx hb d_M_interrupt_35 (by decide) ?_
    exact HR (bz_n bz_0) d_M_interrupt_36 ⟨bz_0, h⟩ hw
end
theorem c_M_interrupt {l : Launch} {D : va_G} {cA : Nat → ClassId} {a : Nat → Nat} {ad : Nat → Nat → Nat} {σ : SS} {post : Int32 → SS → Prop} (h : f_M_interrupt post σ) : mI l y_M_interrupt b_M_interrupt 2 (some .boolean) 3 69 D vcl (tyl cA) (wC cA a) (XC ad) σ [.ref (a 1)] (fun r σ => bz r ∧ post r σ) := met_I (by decide) (Nat.le_of_ble_eq_true rfl) (fun p e s m args below meth c A Q fx HR H ls hw hl => e_M_interrupt  fx HR h hw hl)
abbrev r_M_doNext : Room := { frames := 5, cells := 0, slots := 0, locals := 115 }
def f_M_doNext_107 (post : SS → Prop) (k77 : SS → Int32 → Prop) (σ : SS) (x2 : Int32) : Prop := nm (x2 + 1) fun x2_1 => k77 σ x2_1
def f_M_doNext_77 (post : SS → Prop) : Nat → SS → Int32 → Prop
  | 0, _, _ => False
  | n + 1, σ, x2 => br (3 ≤ x2) (post σ) (vp_in x2 3 ∧ br (x2 = 0) (br ((σ.1 10) = 0) (f_M_doNext_107 post (f_M_doNext_77 post n) σ x2) (f_D_tick_4 (fun σ_3 => f_M_doNext_107 post (f_M_doNext_77 post n) σ_3 x2) σ)) (br (x2 = 1) (br ((σ.1 16) = 0) (f_M_doNext_107 post (f_M_doNext_77 post n) σ x2) (f_D_tick_6 (fun σ_6 => f_M_doNext_107 post (f_M_doNext_77 post n) σ_6 x2) σ)) (br ((σ.1 21) = 0) (f_M_doNext_107 post (f_M_doNext_77 post n) σ x2) (f_D_tick_8 (fun σ_9 => f_M_doNext_107 post (f_M_doNext_77 post n) σ_9 x2) σ))))
def f_M_doNext_34 (post : SS → Prop) (σ : SS) : Prop := f_M_load (fun r_12 σ_11 => f_M_perform (fun r_14 σ_13 => br (r_14 = 0) (nm (sI σ_13 8 2) fun σ_19 => post σ_19) (nm (sI σ_13 6 ((σ_13.1 6) + 1)) fun σ_15 => f_M_letsIn (fun r_17 σ_16 => nm (sI σ_16 5 r_17) fun σ_18 => ∃ n9, f_M_doNext_77 post n9 σ_18 0) σ_15 r_12)) σ_11 r_12) σ (σ.1 1)
def f_M_doNext (post : SS → Prop) (σ : SS) : Prop := br ((σ.1 4) = 0) (f_M_doNext_34 post σ) (br ((σ.1 5) = 0) (f_M_askingDevice (fun r_21 σ_20 => br (r_21 = 0) (f_M_doNext_34 post σ_20) (f_M_interrupt (fun r_23 σ_22 => br (r_23 = 0) (nm (sI σ_22 8 2) fun σ_24 => post σ_24) (f_M_doNext_34 post σ_22)) σ_20)) σ) (f_M_doNext_34 post σ))
section
variable {p : Program} {l : Launch} {e : Env} {s : State} {m : MethodId} {args : Array Value} {below : List Frame} {meth : Method} {c : Code} {Q : State → Prop} {D : va_G} {cA : Nat → ClassId} {a : Nat → Nat} {ad : Nat → Nat → Nat} {A : Nat → Prop}
set_option maxHeartbeats 4000000 in
set_option maxRecDepth 100000 in
theorem c_M_doNext_107 (fx : CallFix p m c b_M_doNext 3 s args GW RNM) {post : SS → Prop} (HR : RetV p l e r_M_doNext s m args below meth c Q D vcl (tyl cA) (wC cA a) (XC ad) A b_M_doNext post) {k77 : SS → Int32 → Prop} (K77 : ∀ {σ : SS} {x2 : Int32} {H : Heap} {locs : List Loc} {ls : Array Slot}, k77 σ x2 → CX D vcl (tyl cA) (wC cA a σ) (XC ad) A s H locs → lv_has ls 3 [(0, .ref (a 1)), (2, .int x2)] → W p l e r_M_doNext s m args below meth c H locs 0 0 Q (F0 m 77 ls [])) {σ : SS} {x2 : Int32} {H : Heap} {locs : List Loc} {ls : Array Slot} (h : f_M_doNext_107 post k77 σ x2) (hw : CX D vcl (tyl cA) (wC cA a σ) (XC ad) A s H locs) (hl : lv_has ls 3 [(0, .ref (a 1)), (2, .int x2)]) : W p l e r_M_doNext s m args below meth c H locs 0 0 Q (F0 m 107 ls []) := by
  have hx := fx.1
  have hb := fx.2.1
  unfold f_M_doNext_107 at h
  obtain ⟨x2_1, e9⟩ : ∃ z : Int32, z = x2 + 1 := ⟨_, rfl⟩
  replace h := nm_u h e9
  refine lv_iinc (pc := 107) (v := x2_1) (lv' := [(2, .int x2_1), (0, .ref (a 1))]) hx hb d_M_doNext_107 hl (k := 1) rfl (by rw [e9]; rfl) (by decide) rfl (fun ls hl => ?_)
  clear e9
  refine lv_goto (pc := 110) (tgt := 77) hx hb d_M_doNext_110 (by decide) ?_
  exact K77 h hw (lv_sub hl [1, 0] rfl)
set_option maxHeartbeats 4000000 in
set_option maxRecDepth 100000 in
theorem c_M_doNext_77 (fx : CallFix p m c b_M_doNext 3 s args GW RNM) {post : SS → Prop} (HR : RetV p l e r_M_doNext s m args below meth c Q D vcl (tyl cA) (wC cA a) (XC ad) A b_M_doNext post) : ∀ (n : Nat) {σ : SS} {x2 : Int32} {H : Heap} {locs : List Loc} {ls : Array Slot}, f_M_doNext_77 post n σ x2 → CX D vcl (tyl cA) (wC cA a σ) (XC ad) A s H locs → lv_has ls 3 [(0, .ref (a 1)), (2, .int x2)] → W p l e r_M_doNext s m args below meth c H locs 0 0 Q (F0 m 77 ls []) := by
  have hx := fx.1
  have hb := fx.2.1
  intro n
  induction n with
  | zero => intro σ x2 H locs ls h; exact h.elim
  | succ n ih =>
    intro σ x2 H locs ls h hw hl
    have K77 := @ih
    unfold f_M_doNext_77 at h
    refine lv_iload_n (pc := 77) hx hb d_M_doNext_77 rfl (lv_at hl 1 rfl) ?_
    refine lv_aload_n (pc := 78) hx hb d_M_doNext_78 rfl (lv_at hl 0 rfl) ?_
    refine gC_1_devices (pc := 79) fx hw kw_128 d_M_doNext_79 ?_
    refine anC_9 (pc := 82) fx hw d_M_doNext_82 ?_
    refine lv_icmp_ge (pc := 83) (tgt := 113) hx hb d_M_doNext_83 (by decide) (fun c9 => ?_) (fun c9 => ?_)
    · replace h := h.1 c9
      exact HR d_M_doNext_113 h hw
    · replace h := h.2 c9
      refine lv_aload_n (pc := 86) hx hb d_M_doNext_86 rfl (lv_at hl 0 rfl) ?_
      refine gC_1_devices (pc := 87) fx hw kw_128 d_M_doNext_87 ?_
      refine lv_iload_n (pc := 90) hx hb d_M_doNext_90 rfl (lv_at hl 1 rfl) ?_
      have v9 := h.1
      replace h := h.2
      by_cases cd_2 : x2 = 0
      · replace h := h.1 cd_2
        refine aaC_9_0 (pc := 91) fx hw cd_2 d_M_doNext_91 ?_
        refine gC_4_busy (pc := 92) fx hw kw_63 d_M_doNext_92 ?_
        refine lv_if_eq (pc := 95) (tgt := 107) hx hb d_M_doNext_95 (by decide) (fun c9 => ?_) (fun c9 => ?_)
        · replace h := h.1 c9
          exact c_M_doNext_107  fx HR K77 h hw (lv_sub hl [0, 1] rfl)
        · replace h := h.2 c9
          refine lv_aload_n (pc := 98) hx hb d_M_doNext_98 rfl (lv_at hl 0 rfl) ?_
          refine gC_1_devices (pc := 99) fx hw kw_128 d_M_doNext_99 ?_
          refine lv_iload_n (pc := 102) hx hb d_M_doNext_102 rfl (lv_at hl 1 rfl) ?_
          refine aaC_9_0 (pc := 103) fx hw cd_2 d_M_doNext_103 ?_
          refine rsV (pc := 104) hw (rnU (pc := 104) xtC fx hw (c_D_tick_4 h _) cw_M_109_E (decl_c fx kw_946 kw_951) (rcC_4 hw) rfl ⟨Nat.le_of_ble_eq_true rfl, Nat.le_of_ble_eq_true rfl⟩ hl.1 (Nat.le_of_ble_eq_true rfl) d_M_doNext_104 ⟨Nat.zero_le _, Nat.zero_le _⟩) (fun σ_3 H locs hw h => ?_)
          exact c_M_doNext_107  fx HR K77 h hw (lv_sub hl [0, 1] rfl)
      replace h := h.2 cd_2
      by_cases cd_5 : x2 = 1
      · replace h := h.1 cd_5
        refine aaC_9_1 (pc := 91) fx hw cd_5 d_M_doNext_91 ?_
        refine gC_6_busy (pc := 92) fx hw kw_63 d_M_doNext_92 ?_
        refine lv_if_eq (pc := 95) (tgt := 107) hx hb d_M_doNext_95 (by decide) (fun c9 => ?_) (fun c9 => ?_)
        · replace h := h.1 c9
          exact c_M_doNext_107  fx HR K77 h hw (lv_sub hl [0, 1] rfl)
        · replace h := h.2 c9
          refine lv_aload_n (pc := 98) hx hb d_M_doNext_98 rfl (lv_at hl 0 rfl) ?_
          refine gC_1_devices (pc := 99) fx hw kw_128 d_M_doNext_99 ?_
          refine lv_iload_n (pc := 102) hx hb d_M_doNext_102 rfl (lv_at hl 1 rfl) ?_
          refine aaC_9_1 (pc := 103) fx hw cd_5 d_M_doNext_103 ?_
          refine rsV (pc := 104) hw (rnU (pc := 104) xtC fx hw (c_D_tick_6 h _) cw_M_109_P (decl_c fx kw_946 kw_951) (rcC_6 hw) rfl ⟨Nat.le_of_ble_eq_true rfl, Nat.le_of_ble_eq_true rfl⟩ hl.1 (Nat.le_of_ble_eq_true rfl) d_M_doNext_104 ⟨Nat.zero_le _, Nat.zero_le _⟩) (fun σ_6 H locs hw h => ?_)
          exact c_M_doNext_107  fx HR K77 h hw (lv_sub hl [0, 1] rfl)
      replace h := h.2 cd_5
      have cd_8 := dv_2 v9 cd_2 cd_5
      refine aaC_9_2 (pc := 91) fx hw cd_8 d_M_doNext_91 ?_
      refine gC_8_busy (pc := 92) fx hw kw_63 d_M_doNext_92 ?_
      refine lv_if_eq (pc := 95) (tgt := 107) hx hb d_M_doNext_95 (by decide) (fun c9 => ?_) (fun c9 => ?_)
      · replace h := h.1 c9
        exact c_M_doNext_107  fx HR K77 h hw (lv_sub hl [0, 1] rfl)
      · replace h := h.2 c9
        refine lv_aload_n (pc := 98) hx hb d_M_doNext_98 rfl (lv_at hl 0 rfl) ?_
        refine gC_1_devices (pc := 99) fx hw kw_128 d_M_doNext_99 ?_
        refine lv_iload_n (pc := 102) hx hb d_M_doNext_102 rfl (lv_at hl 1 rfl) ?_
        refine aaC_9_2 (pc := 103) fx hw cd_8 d_M_doNext_103 ?_
        refine rsV (pc := 104) hw (rnU (pc := 104) xtC fx hw (c_D_tick_8 h _) cw_M_109_K (decl_c fx kw_946 kw_951) (rcC_8 hw) rfl ⟨Nat.le_of_ble_eq_true rfl, Nat.le_of_ble_eq_true rfl⟩ hl.1 (Nat.le_of_ble_eq_true rfl) d_M_doNext_104 ⟨Nat.zero_le _, Nat.zero_le _⟩) (fun σ_9 H locs hw h => ?_)
        exact c_M_doNext_107  fx HR K77 h hw (lv_sub hl [0, 1] rfl)
set_option maxHeartbeats 4000000 in
set_option maxRecDepth 100000 in
theorem c_M_doNext_34 (fx : CallFix p m c b_M_doNext 3 s args GW RNM) {post : SS → Prop} (HR : RetV p l e r_M_doNext s m args below meth c Q D vcl (tyl cA) (wC cA a) (XC ad) A b_M_doNext post) {σ : SS} {H : Heap} {locs : List Loc} {ls : Array Slot} (h : f_M_doNext_34 post σ) (hw : CX D vcl (tyl cA) (wC cA a σ) (XC ad) A s H locs) (hl : lv_has ls 3 [(0, .ref (a 1))]) : W p l e r_M_doNext s m args below meth c H locs 0 0 Q (F0 m 34 ls []) := by
  have hx := fx.1
  have hb := fx.2.1
  unfold f_M_doNext_34 at h
  refine lv_aload_n (pc := 34) hx hb d_M_doNext_34 rfl (lv_at hl 0 rfl) ?_
  refine lv_aload_n (pc := 35) hx hb d_M_doNext_35 rfl (lv_at hl 0 rfl) ?_
  refine gC_1_pc (pc := 36) fx hw kw_130 d_M_doNext_36 ?_
  refine rsI (pc := 39) hw (rnV (pc := 39) xtC fx hw (c_M_load h _) cw_M_98 (rcC_1 hw) rfl ⟨Nat.le_of_ble_eq_true rfl, Nat.le_of_ble_eq_true rfl⟩ hl.1 (Nat.le_of_ble_eq_true rfl) d_M_doNext_39 ⟨Nat.zero_le _, Nat.zero_le _⟩) (fun r_12 σ_11 H locs hw h => ?_)
  refine lv_istore_n (pc := 42) (lv' := [(1, .int r_12), (0, .ref (a 1))]) hx hb d_M_doNext_42 rfl hl (by decide) rfl (fun ls hl => ?_)
  refine lv_aload_n (pc := 43) hx hb d_M_doNext_43 rfl (lv_at hl 1 rfl) ?_
  refine lv_iload_n (pc := 44) hx hb d_M_doNext_44 rfl (lv_at hl 0 rfl) ?_
  refine rsI (pc := 45) hw (rnV (pc := 45) xtC fx hw (c_M_perform h _) cw_M_102 (rcC_1 hw) rfl ⟨Nat.le_of_ble_eq_true rfl, Nat.le_of_ble_eq_true rfl⟩ hl.1 (Nat.le_of_ble_eq_true rfl) d_M_doNext_45 ⟨Nat.zero_le _, Nat.zero_le _⟩) (fun r_14 σ_13 H locs hw h => ?_)
  have zr_14 := h.1
  replace h := h.2
  refine lv_if_ne (pc := 48) (tgt := 57) hx hb d_M_doNext_48 (by decide) (fun c9 => ?_) (fun c9 => ?_)
  · replace h := h.2 c9
    refine lv_aload_n (pc := 57) hx hb d_M_doNext_57 rfl (lv_at hl 1 rfl) ?_
    refine lv_dup (pc := 58) hx hb d_M_doNext_58 rfl ?_
    refine gC_1_instructions (pc := 59) fx hw kw_135 d_M_doNext_59 ?_
    refine lv_iconst (pc := 62) (v := 1) hx hb d_M_doNext_62 (by decide) ?_
    refine lv_iadd (pc := 63) hx hb d_M_doNext_63 ?_
    refine pC_1_instructions (pc := 64) fx hw kw_135 d_M_doNext_64 (fun σ_15 e9 H locs hw => ?_)
    replace h := nm_u h e9
    clear e9
    refine lv_aload_n (pc := 67) hx hb d_M_doNext_67 rfl (lv_at hl 1 rfl) ?_
    refine lv_iload_n (pc := 68) hx hb d_M_doNext_68 rfl (lv_at hl 0 rfl) ?_
    refine rsI (pc := 69) hw (rnS (pc := 69) xtC fx hw (c_M_letsIn h _) cw_M_106 rfl ⟨Nat.le_of_ble_eq_true rfl, Nat.le_of_ble_eq_true rfl⟩ hl.1 (Nat.le_of_ble_eq_true rfl) d_M_doNext_69 ⟨Nat.zero_le _, Nat.zero_le _⟩) (fun r_17 σ_16 H locs hw h => ?_)
    have zr_17 := h.1
    replace h := h.2
    refine pC_1_letInJustNow (pc := 72) fx hw kw_134 zr_17 d_M_doNext_72 (fun σ_18 e9 H locs hw => ?_)
    replace h := nm_u h e9
    clear e9
    refine lv_iconst (pc := 75) (v := 0) hx hb d_M_doNext_75 (by decide) ?_
    refine lv_istore_n (pc := 76) (lv' := [(2, .int 0), (1, .int r_12), (0, .ref (a 1))]) hx hb d_M_doNext_76 rfl hl (by decide) rfl (fun ls hl => ?_)
    obtain ⟨n9, h⟩ := h
    exact c_M_doNext_77  fx HR n9 h hw (lv_sub hl [2, 0] rfl)
  · replace h := h.1 c9
    refine lv_aload_n (pc := 51) hx hb d_M_doNext_51 rfl (lv_at hl 1 rfl) ?_
    refine lv_iconst (pc := 52) (v := 2) hx hb d_M_doNext_52 (by decide) ?_
    refine pC_1_ending (pc := 53) fx hw kw_137 d_M_doNext_53 (fun σ_19 e9 H locs hw => ?_)
    replace h := nm_u h e9
    clear e9
    exact HR d_M_doNext_56 h hw
set_option maxHeartbeats 4000000 in
set_option maxRecDepth 100000 in
theorem e_M_doNext (fx : CallFix p m c b_M_doNext 3 s args GW RNM) {post : SS → Prop} (HR : RetV p l e r_M_doNext s m args below meth c Q D vcl (tyl cA) (wC cA a) (XC ad) A b_M_doNext post) {σ : SS} {H : Heap} {locs : List Loc} {ls : Array Slot} (h : f_M_doNext post σ) (hw : CX D vcl (tyl cA) (wC cA a σ) (XC ad) A s H locs) (hl : lv_has ls 3 [(0, .ref (a 1))]) : W p l e r_M_doNext s m args below meth c H locs 0 0 Q (F0 m 0 ls []) := by
  have hx := fx.1
  have hb := fx.2.1
  unfold f_M_doNext at h
  refine lv_aload_n (pc := 0) hx hb d_M_doNext_0 rfl (lv_at hl 0 rfl) ?_
  refine gC_1_ion (pc := 1) fx hw kw_133 d_M_doNext_1 ?_
  refine lv_if_eq (pc := 4) (tgt := 34) hx hb d_M_doNext_4 (by decide) (fun c9 => ?_) (fun c9 => ?_)
  · replace h := h.1 c9
    exact c_M_doNext_34  fx HR h hw (lv_sub hl [0] rfl)
  · replace h := h.2 c9
    refine lv_aload_n (pc := 7) hx hb d_M_doNext_7 rfl (lv_at hl 0 rfl) ?_
    refine gC_1_letInJustNow (pc := 8) fx hw kw_134 d_M_doNext_8 ?_
    refine lv_if_ne (pc := 11) (tgt := 34) hx hb d_M_doNext_11 (by decide) (fun c9 => ?_) (fun c9 => ?_)
    · replace h := h.2 c9
      exact c_M_doNext_34  fx HR h hw (lv_sub hl [0] rfl)
    · replace h := h.1 c9
      refine lv_aload_n (pc := 14) hx hb d_M_doNext_14 rfl (lv_at hl 0 rfl) ?_
      refine rsI (pc := 15) hw (rnV (pc := 15) xtC fx hw (c_M_askingDevice h _) cw_M_90 (rcC_1 hw) rfl ⟨Nat.le_of_ble_eq_true rfl, Nat.le_of_ble_eq_true rfl⟩ hl.1 (Nat.le_of_ble_eq_true rfl) d_M_doNext_15 ⟨Nat.zero_le _, Nat.zero_le _⟩) (fun r_21 σ_20 H locs hw h => ?_)
      refine lv_if_eq (pc := 18) (tgt := 34) hx hb d_M_doNext_18 (by decide) (fun c9 => ?_) (fun c9 => ?_)
      · replace h := h.1 c9
        exact c_M_doNext_34  fx HR h hw (lv_sub hl [0] rfl)
      · replace h := h.2 c9
        refine lv_aload_n (pc := 21) hx hb d_M_doNext_21 rfl (lv_at hl 0 rfl) ?_
        refine rsI (pc := 22) hw (rnV (pc := 22) xtC fx hw (c_M_interrupt h _) cw_M_94 (rcC_1 hw) rfl ⟨Nat.le_of_ble_eq_true rfl, Nat.le_of_ble_eq_true rfl⟩ hl.1 (Nat.le_of_ble_eq_true rfl) d_M_doNext_22 ⟨Nat.zero_le _, Nat.zero_le _⟩) (fun r_23 σ_22 H locs hw h => ?_)
        have zr_23 := h.1
        replace h := h.2
        refine lv_if_ne (pc := 25) (tgt := 34) hx hb d_M_doNext_25 (by decide) (fun c9 => ?_) (fun c9 => ?_)
        · replace h := h.2 c9
          exact c_M_doNext_34  fx HR h hw (lv_sub hl [0] rfl)
        · replace h := h.1 c9
          refine lv_aload_n (pc := 28) hx hb d_M_doNext_28 rfl (lv_at hl 0 rfl) ?_
          refine lv_iconst (pc := 29) (v := 2) hx hb d_M_doNext_29 (by decide) ?_
          refine pC_1_ending (pc := 30) fx hw kw_137 d_M_doNext_30 (fun σ_24 e9 H locs hw => ?_)
          replace h := nm_u h e9
          clear e9
          exact HR d_M_doNext_33 h hw
end
theorem c_M_doNext {l : Launch} {D : va_G} {cA : Nat → ClassId} {a : Nat → Nat} {ad : Nat → Nat → Nat} {σ : SS} {post : SS → Prop} (h : f_M_doNext post σ) : mV l y_M_doNext b_M_doNext 3 none 5 115 D vcl (tyl cA) (wC cA a) (XC ad) σ [.ref (a 1)] post := met_V (by decide) (Nat.le_of_ble_eq_true rfl) (fun p e s m args below meth c A Q fx HR H ls hw hl => e_M_doNext  fx HR h hw hl)
abbrev r_M_runUpTo : Room := { frames := 6, cells := 0, slots := 0, locals := 137 }
def f_M_runUpTo_34 (post : Int32 → SS → Prop) (σ : SS) (x2 : Int32) : Prop := post ((σ.1 6) - x2) σ
def f_M_runUpTo_12 (post : Int32 → SS → Prop) : Nat → SS → Int32 → Int32 → Int32 → Prop
  | 0, _, _, _, _ => False
  | n + 1, σ, x1, x2, x3 => br (x1 ≤ x3) (f_M_runUpTo_34 post σ x2) (br ((σ.1 8) = 0) (f_M_doNext (fun σ_1 => nm (x3 + 1) fun x3_3 => f_M_runUpTo_12 post n σ_1 x1 x2 x3_3) σ) (f_M_runUpTo_34 post σ x2))
def f_M_runUpTo (post : Int32 → SS → Prop) (σ : SS) (x1 : Int32) : Prop := nm (sI σ 8 0) fun σ_4 => nm (σ_4.1 6) fun x2_5 => ∃ n9, f_M_runUpTo_12 post n9 σ_4 x1 x2_5 0
section
variable {p : Program} {l : Launch} {e : Env} {s : State} {m : MethodId} {args : Array Value} {below : List Frame} {meth : Method} {c : Code} {Q : State → Prop} {D : va_G} {cA : Nat → ClassId} {a : Nat → Nat} {ad : Nat → Nat → Nat} {A : Nat → Prop}
set_option maxHeartbeats 4000000 in
set_option maxRecDepth 100000 in
theorem c_M_runUpTo_34 (fx : CallFix p m c b_M_runUpTo 4 s args GW RNM) {post : Int32 → SS → Prop} (HR : RetI p l e r_M_runUpTo s m args below meth c Q D vcl (tyl cA) (wC cA a) (XC ad) A b_M_runUpTo .int post) {σ : SS} {x2 : Int32} {H : Heap} {locs : List Loc} {ls : Array Slot} (h : f_M_runUpTo_34 post σ x2) (hw : CX D vcl (tyl cA) (wC cA a σ) (XC ad) A s H locs) (hl : lv_has ls 4 [(0, .ref (a 1)), (2, .int x2)]) : W p l e r_M_runUpTo s m args below meth c H locs 0 0 Q (F0 m 34 ls []) := by
  have hx := fx.1
  have hb := fx.2.1
  unfold f_M_runUpTo_34 at h
  refine lv_aload_n (pc := 34) hx hb d_M_runUpTo_34 rfl (lv_at hl 0 rfl) ?_
  refine gC_1_instructions (pc := 35) fx hw kw_135 d_M_runUpTo_35 ?_
  refine lv_iload_n (pc := 38) hx hb d_M_runUpTo_38 rfl (lv_at hl 1 rfl) ?_
  refine lv_isub (pc := 39) hx hb d_M_runUpTo_39 ?_
  exact HR rfl d_M_runUpTo_40 h hw
set_option maxHeartbeats 4000000 in
set_option maxRecDepth 100000 in
theorem c_M_runUpTo_12 (fx : CallFix p m c b_M_runUpTo 4 s args GW RNM) {post : Int32 → SS → Prop} (HR : RetI p l e r_M_runUpTo s m args below meth c Q D vcl (tyl cA) (wC cA a) (XC ad) A b_M_runUpTo .int post) : ∀ (n : Nat) {σ : SS} {x1 : Int32} {x2 : Int32} {x3 : Int32} {H : Heap} {locs : List Loc} {ls : Array Slot}, f_M_runUpTo_12 post n σ x1 x2 x3 → CX D vcl (tyl cA) (wC cA a σ) (XC ad) A s H locs → lv_has ls 4 [(0, .ref (a 1)), (1, .int x1), (2, .int x2), (3, .int x3)] → W p l e r_M_runUpTo s m args below meth c H locs 0 0 Q (F0 m 12 ls []) := by
  have hx := fx.1
  have hb := fx.2.1
  intro n
  induction n with
  | zero => intro σ x1 x2 x3 H locs ls h; exact h.elim
  | succ n ih =>
    intro σ x1 x2 x3 H locs ls h hw hl
    have K12 := @ih
    unfold f_M_runUpTo_12 at h
    refine lv_iload_n (pc := 12) hx hb d_M_runUpTo_12 rfl (lv_at hl 3 rfl) ?_
    refine lv_iload_n (pc := 13) hx hb d_M_runUpTo_13 rfl (lv_at hl 1 rfl) ?_
    refine lv_icmp_ge (pc := 14) (tgt := 34) hx hb d_M_runUpTo_14 (by decide) (fun c9 => ?_) (fun c9 => ?_)
    · replace h := h.1 c9
      exact c_M_runUpTo_34  fx HR h hw (lv_sub hl [0, 2] rfl)
    · replace h := h.2 c9
      refine lv_aload_n (pc := 17) hx hb d_M_runUpTo_17 rfl (lv_at hl 0 rfl) ?_
      refine gC_1_ending (pc := 18) fx hw kw_137 d_M_runUpTo_18 ?_
      refine lv_if_ne (pc := 21) (tgt := 34) hx hb d_M_runUpTo_21 (by decide) (fun c9 => ?_) (fun c9 => ?_)
      · replace h := h.2 c9
        exact c_M_runUpTo_34  fx HR h hw (lv_sub hl [0, 2] rfl)
      · replace h := h.1 c9
        refine lv_aload_n (pc := 24) hx hb d_M_runUpTo_24 rfl (lv_at hl 0 rfl) ?_
        refine rsV (pc := 25) hw (rnV (pc := 25) xtC fx hw (c_M_doNext h _) cw_M_87 (rcC_1 hw) rfl ⟨Nat.le_of_ble_eq_true rfl, Nat.le_of_ble_eq_true rfl⟩ hl.1 (Nat.le_of_ble_eq_true rfl) d_M_runUpTo_25 ⟨Nat.zero_le _, Nat.zero_le _⟩) (fun σ_1 H locs hw h => ?_)
        obtain ⟨x3_3, e9⟩ : ∃ z : Int32, z = x3 + 1 := ⟨_, rfl⟩
        replace h := nm_u h e9
        refine lv_iinc (pc := 28) (v := x3_3) (lv' := [(3, .int x3_3), (0, .ref (a 1)), (1, .int x1), (2, .int x2)]) hx hb d_M_runUpTo_28 hl (k := 3) rfl (by rw [e9]; rfl) (by decide) rfl (fun ls hl => ?_)
        clear e9
        refine lv_goto (pc := 31) (tgt := 12) hx hb d_M_runUpTo_31 (by decide) ?_
        exact K12 h hw (lv_sub hl [1, 2, 3, 0] rfl)
set_option maxHeartbeats 4000000 in
set_option maxRecDepth 100000 in
theorem e_M_runUpTo (fx : CallFix p m c b_M_runUpTo 4 s args GW RNM) {post : Int32 → SS → Prop} (HR : RetI p l e r_M_runUpTo s m args below meth c Q D vcl (tyl cA) (wC cA a) (XC ad) A b_M_runUpTo .int post) {σ : SS} {x1 : Int32} {H : Heap} {locs : List Loc} {ls : Array Slot} (h : f_M_runUpTo post σ x1) (hw : CX D vcl (tyl cA) (wC cA a σ) (XC ad) A s H locs) (hl : lv_has ls 4 [(0, .ref (a 1)), (1, .int x1)]) : W p l e r_M_runUpTo s m args below meth c H locs 0 0 Q (F0 m 0 ls []) := by
  have hx := fx.1
  have hb := fx.2.1
  unfold f_M_runUpTo at h
  refine lv_aload_n (pc := 0) hx hb d_M_runUpTo_0 rfl (lv_at hl 0 rfl) ?_
  refine lv_iconst (pc := 1) (v := 0) hx hb d_M_runUpTo_1 (by decide) ?_
  refine pC_1_ending (pc := 2) fx hw kw_137 d_M_runUpTo_2 (fun σ_4 e9 H locs hw => ?_)
  replace h := nm_u h e9
  clear e9
  refine lv_aload_n (pc := 5) hx hb d_M_runUpTo_5 rfl (lv_at hl 0 rfl) ?_
  refine gC_1_instructions (pc := 6) fx hw kw_135 d_M_runUpTo_6 ?_
  refine lv_topi (fun x2_5 e9 => ?_)
  replace h := nm_u h e9
  clear e9
  refine lv_istore_n (pc := 9) (lv' := [(2, .int x2_5), (0, .ref (a 1)), (1, .int x1)]) hx hb d_M_runUpTo_9 rfl hl (by decide) rfl (fun ls hl => ?_)
  refine lv_iconst (pc := 10) (v := 0) hx hb d_M_runUpTo_10 (by decide) ?_
  refine lv_istore_n (pc := 11) (lv' := [(3, .int 0), (2, .int x2_5), (0, .ref (a 1)), (1, .int x1)]) hx hb d_M_runUpTo_11 rfl hl (by decide) rfl (fun ls hl => ?_)
  obtain ⟨n9, h⟩ := h
  exact c_M_runUpTo_12  fx HR n9 h hw (lv_sub hl [2, 3, 1, 0] rfl)
end
theorem c_M_runUpTo {l : Launch} {D : va_G} {cA : Nat → ClassId} {a : Nat → Nat} {ad : Nat → Nat → Nat} {σ : SS} {post : Int32 → SS → Prop} {x1 : Int32} (h : f_M_runUpTo post σ x1) : mI l y_M_runUpTo b_M_runUpTo 4 (some .int) 6 137 D vcl (tyl cA) (wC cA a) (XC ad) σ [.ref (a 1), .int x1] post := met_I (by decide) (Nat.le_of_ble_eq_true rfl) (fun p e s m args below meth c A Q fx HR H ls hw hl => e_M_runUpTo  fx HR h hw hl)
