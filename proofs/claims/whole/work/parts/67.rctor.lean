/-! constructors: the reference -/
def w1_R_init (cA : Nat → ClassId) (h0 : Nat) (q : Nat → Nat) : va_W := [(h0, .inr (0, [.ref (q 0), .ref (q 1), .int 0, .int 0, .int 0, .int 0, .int 0, .int 0, .int 0, .int 0, .int 0, .ref (q 2), .ref (q 3), .ref (q 4), .ref (q 5), .ref (q 6), .int 0, .ref (q 7), .int 0, .int 0, .ref (q 8), .int 0, .int 0, .int 0, .int 0, .ref (q 9), .ref (q 10), .int 0, .ref (q 11), .ref (q 12), .int 0, .ref (q 13), .ref (q 14), .int 0, .int 0, .int 0, .int 0, .int 0, .int 0, .long 0, .ref (q 15), .ref (q 16), .int 0, .int 0, .int 0, .int 0, .ref (q 17), .int 0, .int 0])), ((q 0), .inl (cA 0, 32768, .inl (fun _ => 0))), ((q 1), .inl (cA 0, 4, .inl (fun _ => 0))), ((q 2), .inl (cA 0, 3, .inl (fun _ => 0))), ((q 3), .inl (cA 3, 3, .inl (fun _ => 0))), ((q 4), .inl (cA 3, 3, .inl (fun _ => 0))), ((q 5), .inl (cA 0, 3, .inl (fun _ => 0))), ((q 6), .inl (cA 0, 500, .inl (fun _ => 0))), ((q 7), .inl (cA 0, 1000, .inl (fun _ => 0))), ((q 8), .inl (cA 2, 6000, .inl (fun _ => 0))), ((q 9), .inl (cA 1, 200, .inr (.inl (fun _ => 0)))), ((q 10), .inl (cA 0, 200, .inl (fun _ => 0))), ((q 11), .inl (cA 1, 200, .inr (.inl (fun _ => 0)))), ((q 12), .inl (cA 0, 200, .inl (fun _ => 0))), ((q 13), .inl (cA 0, 6000, .inl (fun _ => 0))), ((q 14), .inl (cA 0, 6000, .inl (fun _ => 0))), ((q 15), .inl (cA 0, 8, .inl (fun _ => 0))), ((q 16), .inl (cA 0, 8, .inl (fun _ => 0))), ((q 17), .inl (cA 0, 40, .inl (fun _ => 0)))]
def fI (v : Nat → Value) : List Value := (List.range 49).map v
theorem fI_len (v : Nat → Value) : (fI v).length = 49 := by simp [fI]
def vset (v : Nat → Value) (k : Nat) (x : Value) : Nat → Value := fun j => if j = k then x else v j
theorem fI_set (v : Nat → Value) (k : Nat) (x : Value) : (fI v).set k x = fI (vset v k x) := by
  apply List.ext_getElem
  · simp [fI]
  · intro i h1 h2
    simp only [fI, vset, List.getElem_set, List.getElem_map, List.getElem_range]
    by_cases h : i = k
    · subst h; simp
    · have h' : ¬ k = i := fun e => h e.symm
      simp [h, h']
theorem z_hw {h0 : Nat} {v : Nat → Value} {ws : va_W} {k : Nat} {x : Value} {c : Nat × _} : ((((h0, .inr (0, fI v)) :: ws) ++ [c] : va_W)).set 0 (h0, .inr (0, (fI v).set k x)) = (h0, .inr (0, fI (vset v k x))) :: (ws ++ [c]) := by rw [fI_set]; rfl
def v0R : Nat → Value := fun k => ([.null, .null, .int 0, .int 0, .int 0, .int 0, .int 0, .int 0, .int 0, .int 0, .int 0, .null, .null, .null, .null, .null, .int 0, .null, .int 0, .int 0, .null, .int 0, .int 0, .int 0, .int 0, .null, .null, .int 0, .null, .null, .int 0, .null, .null, .int 0, .int 0, .int 0, .int 0, .int 0, .int 0, .long 0, .null, .null, .int 0, .int 0, .int 0, .int 0, .null, .int 0, .int 0] : List Value).getD k .null
theorem fI0 : fI v0R = [.null, .null, .int 0, .int 0, .int 0, .int 0, .int 0, .int 0, .int 0, .int 0, .int 0, .null, .null, .null, .null, .null, .int 0, .null, .int 0, .int 0, .null, .int 0, .int 0, .int 0, .int 0, .null, .null, .int 0, .null, .null, .int 0, .null, .null, .int 0, .int 0, .int 0, .int 0, .int 0, .int 0, .long 0, .null, .null, .int 0, .int 0, .int 0, .int 0, .null, .int 0, .int 0] := rfl
section RI
variable {p : Program} {l : Launch} {e : Env} {s : State} {m : MethodId} {args : Array Value} {below : List Frame} {meth : Method} {c : Code} {Q : State → Prop} {D : va_G} {cA : Nat → ClassId} {A : Nat → Prop} {h0 : Nat} {H : Heap} {locs : List Loc} {ls : Array Slot}
set_option maxHeartbeats 4000000 in
set_option maxRecDepth 100000 in
theorem z_R_0 (fx : CallFix p m c b_R_init 1 s args GW RNR) (hi : meth.name = "<init>") {v : Nat → Value} {ws : va_W} (hw : CX D vcl (tyl cA) ((h0, .inr (0, fI v)) :: ws) XK A s H locs) (hl : lv_has ls 1 [(0, .ref h0)]) (kk : ∀ (q1 : Nat) (H : Heap) (locs : List Loc), CX D vcl (tyl cA) ((h0, .inr (0, fI (vset v 0 (.ref q1)))) :: (ws ++ [(q1, .inl (cA 0, 32768, .inl (fun _ => 0)))])) XK A s H locs → W p l e { frames := 1, cells := 18, slots := 53140, locals := 20 } s m args below meth c H locs 1 32768 Q (F0 m 12 ls [])) : W p l e { frames := 1, cells := 18, slots := 53140, locals := 20 } s m args below meth c H locs 0 0 Q (F0 m 4 ls []) := by
  have hx := fx.1
  have hb := fx.2.1
  refine lv_aload_n (pc := 4) hx hb d_R_init_4 rfl (lv_at hl 0 rfl) ?_
  refine lv_ldc (pc := 5) (v := 32768) hx hb fx.2.2.2.1 (fx.2.2.2.2 _ kw_1066) d_R_init_5 ?_
  refine cx_newa (pc := 7) (ty := .int) (N' := 32768) (a0 := (32768, .inl (fun _ => 0))) 0 rfl rfl (fun _ h => by cases h) (fun _ => rfl) (by decide) (by decide) (by decide) fx hw kw_86 (Nat.le_of_ble_eq_true rfl) (Nat.le_of_ble_eq_true rfl) d_R_init_7 (fun q1 H hw => ?_)
  refine cx_fin (pc := 9) (C := RNR) (T := TTR) (N := 49) (ref := "NovaDeskModel") (ty := (.array .int)) (fs := fI v) (wz := (h0, .inr (0, fI (vset v 0 (.ref q1)))) :: (ws ++ [(q1, .inl (cA 0, 32768, .inl (fun _ => 0)))])) 0 0 inwR tyR_ok nmR rfl rfl (by decide) (by rw [fI_len]; decide) rfl rfl (by decide +kernel) z_hw (fun _ h => h) rfl rfl fx hi hw kw_1067 d_R_init_9 (fun H locs hw => ?_)
  exact kk q1 H locs hw
set_option maxHeartbeats 4000000 in
set_option maxRecDepth 100000 in
theorem z_R_1 (fx : CallFix p m c b_R_init 1 s args GW RNR) (hi : meth.name = "<init>") {v : Nat → Value} {ws : va_W} (hw : CX D vcl (tyl cA) ((h0, .inr (0, fI v)) :: ws) XK A s H locs) (hl : lv_has ls 1 [(0, .ref h0)]) (kk : ∀ (q2 : Nat) (H : Heap) (locs : List Loc), CX D vcl (tyl cA) ((h0, .inr (0, fI (vset v 1 (.ref q2)))) :: (ws ++ [(q2, .inl (cA 0, 4, .inl (fun _ => 0)))])) XK A s H locs → W p l e { frames := 1, cells := 18, slots := 53140, locals := 20 } s m args below meth c H locs 2 32772 Q (F0 m 19 ls [])) : W p l e { frames := 1, cells := 18, slots := 53140, locals := 20 } s m args below meth c H locs 1 32768 Q (F0 m 12 ls []) := by
  have hx := fx.1
  have hb := fx.2.1
  refine lv_aload_n (pc := 12) hx hb d_R_init_12 rfl (lv_at hl 0 rfl) ?_
  refine lv_iconst (pc := 13) (v := 4) hx hb d_R_init_13 (by decide) ?_
  refine cx_newa (pc := 14) (ty := .int) (N' := 4) (a0 := (4, .inl (fun _ => 0))) 0 rfl rfl (fun _ h => by cases h) (fun _ => rfl) (by decide) (by decide) (by decide) fx hw kw_86 (Nat.le_of_ble_eq_true rfl) (Nat.le_of_ble_eq_true rfl) d_R_init_14 (fun q2 H hw => ?_)
  refine cx_fin (pc := 16) (C := RNR) (T := TTR) (N := 49) (ref := "NovaDeskModel") (ty := (.array .int)) (fs := fI v) (wz := (h0, .inr (0, fI (vset v 1 (.ref q2)))) :: (ws ++ [(q2, .inl (cA 0, 4, .inl (fun _ => 0)))])) 0 1 inwR tyR_ok nmR rfl rfl (by decide) (by rw [fI_len]; decide) rfl rfl (by decide +kernel) z_hw (fun _ h => h) rfl rfl fx hi hw kw_1068 d_R_init_16 (fun H locs hw => ?_)
  exact kk q2 H locs hw
set_option maxHeartbeats 4000000 in
set_option maxRecDepth 100000 in
theorem z_R_2 (fx : CallFix p m c b_R_init 1 s args GW RNR) (hi : meth.name = "<init>") {v : Nat → Value} {ws : va_W} (hw : CX D vcl (tyl cA) ((h0, .inr (0, fI v)) :: ws) XK A s H locs) (hl : lv_has ls 1 [(0, .ref h0)]) (kk : ∀ (q3 : Nat) (H : Heap) (locs : List Loc), CX D vcl (tyl cA) ((h0, .inr (0, fI (vset v 11 (.ref q3)))) :: (ws ++ [(q3, .inl (cA 0, 3, .inl (fun _ => 0)))])) XK A s H locs → W p l e { frames := 1, cells := 18, slots := 53140, locals := 20 } s m args below meth c H locs 3 32775 Q (F0 m 26 ls [])) : W p l e { frames := 1, cells := 18, slots := 53140, locals := 20 } s m args below meth c H locs 2 32772 Q (F0 m 19 ls []) := by
  have hx := fx.1
  have hb := fx.2.1
  refine lv_aload_n (pc := 19) hx hb d_R_init_19 rfl (lv_at hl 0 rfl) ?_
  refine lv_iconst (pc := 20) (v := 3) hx hb d_R_init_20 (by decide) ?_
  refine cx_newa (pc := 21) (ty := .int) (N' := 3) (a0 := (3, .inl (fun _ => 0))) 0 rfl rfl (fun _ h => by cases h) (fun _ => rfl) (by decide) (by decide) (by decide) fx hw kw_86 (Nat.le_of_ble_eq_true rfl) (Nat.le_of_ble_eq_true rfl) d_R_init_21 (fun q3 H hw => ?_)
  refine cx_fin (pc := 23) (C := RNR) (T := TTR) (N := 49) (ref := "NovaDeskModel") (ty := (.array .int)) (fs := fI v) (wz := (h0, .inr (0, fI (vset v 11 (.ref q3)))) :: (ws ++ [(q3, .inl (cA 0, 3, .inl (fun _ => 0)))])) 0 11 inwR tyR_ok nmR rfl rfl (by decide) (by rw [fI_len]; decide) rfl rfl (by decide +kernel) z_hw (fun _ h => h) rfl rfl fx hi hw kw_1078 d_R_init_23 (fun H locs hw => ?_)
  exact kk q3 H locs hw
set_option maxHeartbeats 4000000 in
set_option maxRecDepth 100000 in
theorem z_R_3 (fx : CallFix p m c b_R_init 1 s args GW RNR) (hi : meth.name = "<init>") {v : Nat → Value} {ws : va_W} (hw : CX D vcl (tyl cA) ((h0, .inr (0, fI v)) :: ws) XK A s H locs) (hl : lv_has ls 1 [(0, .ref h0)]) (kk : ∀ (q4 : Nat) (H : Heap) (locs : List Loc), CX D vcl (tyl cA) ((h0, .inr (0, fI (vset v 12 (.ref q4)))) :: (ws ++ [(q4, .inl (cA 3, 3, .inl (fun _ => 0)))])) XK A s H locs → W p l e { frames := 1, cells := 18, slots := 53140, locals := 20 } s m args below meth c H locs 4 32778 Q (F0 m 33 ls [])) : W p l e { frames := 1, cells := 18, slots := 53140, locals := 20 } s m args below meth c H locs 3 32775 Q (F0 m 26 ls []) := by
  have hx := fx.1
  have hb := fx.2.1
  refine lv_aload_n (pc := 26) hx hb d_R_init_26 rfl (lv_at hl 0 rfl) ?_
  refine lv_iconst (pc := 27) (v := 3) hx hb d_R_init_27 (by decide) ?_
  refine cx_newa (pc := 28) (ty := .boolean) (N' := 3) (a0 := (3, .inl (fun _ => 0))) 3 rfl rfl (fun _ h => by cases h) (fun _ => rfl) (by decide) (by decide) (by decide) fx hw kw_1215 (Nat.le_of_ble_eq_true rfl) (Nat.le_of_ble_eq_true rfl) d_R_init_28 (fun q4 H hw => ?_)
  refine cx_fin (pc := 30) (C := RNR) (T := TTR) (N := 49) (ref := "NovaDeskModel") (ty := (.array .boolean)) (fs := fI v) (wz := (h0, .inr (0, fI (vset v 12 (.ref q4)))) :: (ws ++ [(q4, .inl (cA 3, 3, .inl (fun _ => 0)))])) 0 12 inwR tyR_ok nmR rfl rfl (by decide) (by rw [fI_len]; decide) rfl rfl (by decide +kernel) z_hw (fun _ h => h) rfl rfl fx hi hw kw_1079 d_R_init_30 (fun H locs hw => ?_)
  exact kk q4 H locs hw
set_option maxHeartbeats 4000000 in
set_option maxRecDepth 100000 in
theorem z_R_4 (fx : CallFix p m c b_R_init 1 s args GW RNR) (hi : meth.name = "<init>") {v : Nat → Value} {ws : va_W} (hw : CX D vcl (tyl cA) ((h0, .inr (0, fI v)) :: ws) XK A s H locs) (hl : lv_has ls 1 [(0, .ref h0)]) (kk : ∀ (q5 : Nat) (H : Heap) (locs : List Loc), CX D vcl (tyl cA) ((h0, .inr (0, fI (vset v 13 (.ref q5)))) :: (ws ++ [(q5, .inl (cA 3, 3, .inl (fun _ => 0)))])) XK A s H locs → W p l e { frames := 1, cells := 18, slots := 53140, locals := 20 } s m args below meth c H locs 5 32781 Q (F0 m 40 ls [])) : W p l e { frames := 1, cells := 18, slots := 53140, locals := 20 } s m args below meth c H locs 4 32778 Q (F0 m 33 ls []) := by
  have hx := fx.1
  have hb := fx.2.1
  refine lv_aload_n (pc := 33) hx hb d_R_init_33 rfl (lv_at hl 0 rfl) ?_
  refine lv_iconst (pc := 34) (v := 3) hx hb d_R_init_34 (by decide) ?_
  refine cx_newa (pc := 35) (ty := .boolean) (N' := 3) (a0 := (3, .inl (fun _ => 0))) 3 rfl rfl (fun _ h => by cases h) (fun _ => rfl) (by decide) (by decide) (by decide) fx hw kw_1215 (Nat.le_of_ble_eq_true rfl) (Nat.le_of_ble_eq_true rfl) d_R_init_35 (fun q5 H hw => ?_)
  refine cx_fin (pc := 37) (C := RNR) (T := TTR) (N := 49) (ref := "NovaDeskModel") (ty := (.array .boolean)) (fs := fI v) (wz := (h0, .inr (0, fI (vset v 13 (.ref q5)))) :: (ws ++ [(q5, .inl (cA 3, 3, .inl (fun _ => 0)))])) 0 13 inwR tyR_ok nmR rfl rfl (by decide) (by rw [fI_len]; decide) rfl rfl (by decide +kernel) z_hw (fun _ h => h) rfl rfl fx hi hw kw_1080 d_R_init_37 (fun H locs hw => ?_)
  exact kk q5 H locs hw
set_option maxHeartbeats 4000000 in
set_option maxRecDepth 100000 in
theorem z_R_5 (fx : CallFix p m c b_R_init 1 s args GW RNR) (hi : meth.name = "<init>") {v : Nat → Value} {ws : va_W} (hw : CX D vcl (tyl cA) ((h0, .inr (0, fI v)) :: ws) XK A s H locs) (hl : lv_has ls 1 [(0, .ref h0)]) (kk : ∀ (q6 : Nat) (H : Heap) (locs : List Loc), CX D vcl (tyl cA) ((h0, .inr (0, fI (vset v 14 (.ref q6)))) :: (ws ++ [(q6, .inl (cA 0, 3, .inl (fun _ => 0)))])) XK A s H locs → W p l e { frames := 1, cells := 18, slots := 53140, locals := 20 } s m args below meth c H locs 6 32784 Q (F0 m 47 ls [])) : W p l e { frames := 1, cells := 18, slots := 53140, locals := 20 } s m args below meth c H locs 5 32781 Q (F0 m 40 ls []) := by
  have hx := fx.1
  have hb := fx.2.1
  refine lv_aload_n (pc := 40) hx hb d_R_init_40 rfl (lv_at hl 0 rfl) ?_
  refine lv_iconst (pc := 41) (v := 3) hx hb d_R_init_41 (by decide) ?_
  refine cx_newa (pc := 42) (ty := .int) (N' := 3) (a0 := (3, .inl (fun _ => 0))) 0 rfl rfl (fun _ h => by cases h) (fun _ => rfl) (by decide) (by decide) (by decide) fx hw kw_86 (Nat.le_of_ble_eq_true rfl) (Nat.le_of_ble_eq_true rfl) d_R_init_42 (fun q6 H hw => ?_)
  refine cx_fin (pc := 44) (C := RNR) (T := TTR) (N := 49) (ref := "NovaDeskModel") (ty := (.array .int)) (fs := fI v) (wz := (h0, .inr (0, fI (vset v 14 (.ref q6)))) :: (ws ++ [(q6, .inl (cA 0, 3, .inl (fun _ => 0)))])) 0 14 inwR tyR_ok nmR rfl rfl (by decide) (by rw [fI_len]; decide) rfl rfl (by decide +kernel) z_hw (fun _ h => h) rfl rfl fx hi hw kw_1081 d_R_init_44 (fun H locs hw => ?_)
  exact kk q6 H locs hw
set_option maxHeartbeats 4000000 in
set_option maxRecDepth 100000 in
theorem z_R_6 (fx : CallFix p m c b_R_init 1 s args GW RNR) (hi : meth.name = "<init>") {v : Nat → Value} {ws : va_W} (hw : CX D vcl (tyl cA) ((h0, .inr (0, fI v)) :: ws) XK A s H locs) (hl : lv_has ls 1 [(0, .ref h0)]) (kk : ∀ (q7 : Nat) (H : Heap) (locs : List Loc), CX D vcl (tyl cA) ((h0, .inr (0, fI (vset v 15 (.ref q7)))) :: (ws ++ [(q7, .inl (cA 0, 500, .inl (fun _ => 0)))])) XK A s H locs → W p l e { frames := 1, cells := 18, slots := 53140, locals := 20 } s m args below meth c H locs 7 33284 Q (F0 m 56 ls [])) : W p l e { frames := 1, cells := 18, slots := 53140, locals := 20 } s m args below meth c H locs 6 32784 Q (F0 m 47 ls []) := by
  have hx := fx.1
  have hb := fx.2.1
  refine lv_aload_n (pc := 47) hx hb d_R_init_47 rfl (lv_at hl 0 rfl) ?_
  refine lv_sipush (pc := 48) (v := 500) hx hb d_R_init_48 (by decide) ?_
  refine cx_newa (pc := 51) (ty := .int) (N' := 500) (a0 := (500, .inl (fun _ => 0))) 0 rfl rfl (fun _ h => by cases h) (fun _ => rfl) (by decide) (by decide) (by decide) fx hw kw_86 (Nat.le_of_ble_eq_true rfl) (Nat.le_of_ble_eq_true rfl) d_R_init_51 (fun q7 H hw => ?_)
  refine cx_fin (pc := 53) (C := RNR) (T := TTR) (N := 49) (ref := "NovaDeskModel") (ty := (.array .int)) (fs := fI v) (wz := (h0, .inr (0, fI (vset v 15 (.ref q7)))) :: (ws ++ [(q7, .inl (cA 0, 500, .inl (fun _ => 0)))])) 0 15 inwR tyR_ok nmR rfl rfl (by decide) (by rw [fI_len]; decide) rfl rfl (by decide +kernel) z_hw (fun _ h => h) rfl rfl fx hi hw kw_1082 d_R_init_53 (fun H locs hw => ?_)
  exact kk q7 H locs hw
set_option maxHeartbeats 4000000 in
set_option maxRecDepth 100000 in
theorem z_R_7 (fx : CallFix p m c b_R_init 1 s args GW RNR) (hi : meth.name = "<init>") {v : Nat → Value} {ws : va_W} (hw : CX D vcl (tyl cA) ((h0, .inr (0, fI v)) :: ws) XK A s H locs) (hl : lv_has ls 1 [(0, .ref h0)]) (kk : ∀ (q8 : Nat) (H : Heap) (locs : List Loc), CX D vcl (tyl cA) ((h0, .inr (0, fI (vset v 17 (.ref q8)))) :: (ws ++ [(q8, .inl (cA 0, 1000, .inl (fun _ => 0)))])) XK A s H locs → W p l e { frames := 1, cells := 18, slots := 53140, locals := 20 } s m args below meth c H locs 8 34284 Q (F0 m 65 ls [])) : W p l e { frames := 1, cells := 18, slots := 53140, locals := 20 } s m args below meth c H locs 7 33284 Q (F0 m 56 ls []) := by
  have hx := fx.1
  have hb := fx.2.1
  refine lv_aload_n (pc := 56) hx hb d_R_init_56 rfl (lv_at hl 0 rfl) ?_
  refine lv_sipush (pc := 57) (v := 1000) hx hb d_R_init_57 (by decide) ?_
  refine cx_newa (pc := 60) (ty := .int) (N' := 1000) (a0 := (1000, .inl (fun _ => 0))) 0 rfl rfl (fun _ h => by cases h) (fun _ => rfl) (by decide) (by decide) (by decide) fx hw kw_86 (Nat.le_of_ble_eq_true rfl) (Nat.le_of_ble_eq_true rfl) d_R_init_60 (fun q8 H hw => ?_)
  refine cx_fin (pc := 62) (C := RNR) (T := TTR) (N := 49) (ref := "NovaDeskModel") (ty := (.array .int)) (fs := fI v) (wz := (h0, .inr (0, fI (vset v 17 (.ref q8)))) :: (ws ++ [(q8, .inl (cA 0, 1000, .inl (fun _ => 0)))])) 0 17 inwR tyR_ok nmR rfl rfl (by decide) (by rw [fI_len]; decide) rfl rfl (by decide +kernel) z_hw (fun _ h => h) rfl rfl fx hi hw kw_1084 d_R_init_62 (fun H locs hw => ?_)
  exact kk q8 H locs hw
set_option maxHeartbeats 4000000 in
set_option maxRecDepth 100000 in
theorem z_R_8 (fx : CallFix p m c b_R_init 1 s args GW RNR) (hi : meth.name = "<init>") {v : Nat → Value} {ws : va_W} (hw : CX D vcl (tyl cA) ((h0, .inr (0, fI v)) :: ws) XK A s H locs) (hl : lv_has ls 1 [(0, .ref h0)]) (kk : ∀ (q9 : Nat) (H : Heap) (locs : List Loc), CX D vcl (tyl cA) ((h0, .inr (0, fI (vset v 20 (.ref q9)))) :: (ws ++ [(q9, .inl (cA 2, 6000, .inl (fun _ => 0)))])) XK A s H locs → W p l e { frames := 1, cells := 18, slots := 53140, locals := 20 } s m args below meth c H locs 9 40284 Q (F0 m 74 ls [])) : W p l e { frames := 1, cells := 18, slots := 53140, locals := 20 } s m args below meth c H locs 8 34284 Q (F0 m 65 ls []) := by
  have hx := fx.1
  have hb := fx.2.1
  refine lv_aload_n (pc := 65) hx hb d_R_init_65 rfl (lv_at hl 0 rfl) ?_
  refine lv_sipush (pc := 66) (v := 6000) hx hb d_R_init_66 (by decide) ?_
  refine cx_newa (pc := 69) (ty := .byte) (N' := 6000) (a0 := (6000, .inl (fun _ => 0))) 2 rfl rfl (fun _ h => by cases h) (fun _ => rfl) (by decide) (by decide) (by decide) fx hw kw_633 (Nat.le_of_ble_eq_true rfl) (Nat.le_of_ble_eq_true rfl) d_R_init_69 (fun q9 H hw => ?_)
  refine cx_fin (pc := 71) (C := RNR) (T := TTR) (N := 49) (ref := "NovaDeskModel") (ty := (.array .byte)) (fs := fI v) (wz := (h0, .inr (0, fI (vset v 20 (.ref q9)))) :: (ws ++ [(q9, .inl (cA 2, 6000, .inl (fun _ => 0)))])) 0 20 inwR tyR_ok nmR rfl rfl (by decide) (by rw [fI_len]; decide) rfl rfl (by decide +kernel) z_hw (fun _ h => h) rfl rfl fx hi hw kw_1087 d_R_init_71 (fun H locs hw => ?_)
  exact kk q9 H locs hw
set_option maxHeartbeats 4000000 in
set_option maxRecDepth 100000 in
theorem z_R_9 (fx : CallFix p m c b_R_init 1 s args GW RNR) (hi : meth.name = "<init>") {v : Nat → Value} {ws : va_W} (hw : CX D vcl (tyl cA) ((h0, .inr (0, fI v)) :: ws) XK A s H locs) (hl : lv_has ls 1 [(0, .ref h0)]) (kk : ∀ (q10 : Nat) (H : Heap) (locs : List Loc), CX D vcl (tyl cA) ((h0, .inr (0, fI (vset v 25 (.ref q10)))) :: (ws ++ [(q10, .inl (cA 1, 200, .inr (.inl (fun _ => 0))))])) XK A s H locs → W p l e { frames := 1, cells := 18, slots := 53140, locals := 20 } s m args below meth c H locs 10 40484 Q (F0 m 83 ls [])) : W p l e { frames := 1, cells := 18, slots := 53140, locals := 20 } s m args below meth c H locs 9 40284 Q (F0 m 74 ls []) := by
  have hx := fx.1
  have hb := fx.2.1
  refine lv_aload_n (pc := 74) hx hb d_R_init_74 rfl (lv_at hl 0 rfl) ?_
  refine lv_sipush (pc := 75) (v := 200) hx hb d_R_init_75 (by decide) ?_
  refine cx_newa (pc := 78) (ty := .long) (N' := 200) (a0 := (200, .inr (.inl (fun _ => 0)))) 1 rfl rfl (fun _ h => by cases h) (fun _ => rfl) (by decide) (by decide) (by decide) fx hw kw_199 (Nat.le_of_ble_eq_true rfl) (Nat.le_of_ble_eq_true rfl) d_R_init_78 (fun q10 H hw => ?_)
  refine cx_fin (pc := 80) (C := RNR) (T := TTR) (N := 49) (ref := "NovaDeskModel") (ty := (.array .long)) (fs := fI v) (wz := (h0, .inr (0, fI (vset v 25 (.ref q10)))) :: (ws ++ [(q10, .inl (cA 1, 200, .inr (.inl (fun _ => 0))))])) 0 25 inwR tyR_ok nmR rfl rfl (by decide) (by rw [fI_len]; decide) rfl rfl (by decide +kernel) z_hw (fun _ h => h) rfl rfl fx hi hw kw_1092 d_R_init_80 (fun H locs hw => ?_)
  exact kk q10 H locs hw
set_option maxHeartbeats 4000000 in
set_option maxRecDepth 100000 in
theorem z_R_10 (fx : CallFix p m c b_R_init 1 s args GW RNR) (hi : meth.name = "<init>") {v : Nat → Value} {ws : va_W} (hw : CX D vcl (tyl cA) ((h0, .inr (0, fI v)) :: ws) XK A s H locs) (hl : lv_has ls 1 [(0, .ref h0)]) (kk : ∀ (q11 : Nat) (H : Heap) (locs : List Loc), CX D vcl (tyl cA) ((h0, .inr (0, fI (vset v 26 (.ref q11)))) :: (ws ++ [(q11, .inl (cA 0, 200, .inl (fun _ => 0)))])) XK A s H locs → W p l e { frames := 1, cells := 18, slots := 53140, locals := 20 } s m args below meth c H locs 11 40684 Q (F0 m 92 ls [])) : W p l e { frames := 1, cells := 18, slots := 53140, locals := 20 } s m args below meth c H locs 10 40484 Q (F0 m 83 ls []) := by
  have hx := fx.1
  have hb := fx.2.1
  refine lv_aload_n (pc := 83) hx hb d_R_init_83 rfl (lv_at hl 0 rfl) ?_
  refine lv_sipush (pc := 84) (v := 200) hx hb d_R_init_84 (by decide) ?_
  refine cx_newa (pc := 87) (ty := .int) (N' := 200) (a0 := (200, .inl (fun _ => 0))) 0 rfl rfl (fun _ h => by cases h) (fun _ => rfl) (by decide) (by decide) (by decide) fx hw kw_86 (Nat.le_of_ble_eq_true rfl) (Nat.le_of_ble_eq_true rfl) d_R_init_87 (fun q11 H hw => ?_)
  refine cx_fin (pc := 89) (C := RNR) (T := TTR) (N := 49) (ref := "NovaDeskModel") (ty := (.array .int)) (fs := fI v) (wz := (h0, .inr (0, fI (vset v 26 (.ref q11)))) :: (ws ++ [(q11, .inl (cA 0, 200, .inl (fun _ => 0)))])) 0 26 inwR tyR_ok nmR rfl rfl (by decide) (by rw [fI_len]; decide) rfl rfl (by decide +kernel) z_hw (fun _ h => h) rfl rfl fx hi hw kw_1093 d_R_init_89 (fun H locs hw => ?_)
  exact kk q11 H locs hw
set_option maxHeartbeats 4000000 in
set_option maxRecDepth 100000 in
theorem z_R_11 (fx : CallFix p m c b_R_init 1 s args GW RNR) (hi : meth.name = "<init>") {v : Nat → Value} {ws : va_W} (hw : CX D vcl (tyl cA) ((h0, .inr (0, fI v)) :: ws) XK A s H locs) (hl : lv_has ls 1 [(0, .ref h0)]) (kk : ∀ (q12 : Nat) (H : Heap) (locs : List Loc), CX D vcl (tyl cA) ((h0, .inr (0, fI (vset v 28 (.ref q12)))) :: (ws ++ [(q12, .inl (cA 1, 200, .inr (.inl (fun _ => 0))))])) XK A s H locs → W p l e { frames := 1, cells := 18, slots := 53140, locals := 20 } s m args below meth c H locs 12 40884 Q (F0 m 101 ls [])) : W p l e { frames := 1, cells := 18, slots := 53140, locals := 20 } s m args below meth c H locs 11 40684 Q (F0 m 92 ls []) := by
  have hx := fx.1
  have hb := fx.2.1
  refine lv_aload_n (pc := 92) hx hb d_R_init_92 rfl (lv_at hl 0 rfl) ?_
  refine lv_sipush (pc := 93) (v := 200) hx hb d_R_init_93 (by decide) ?_
  refine cx_newa (pc := 96) (ty := .long) (N' := 200) (a0 := (200, .inr (.inl (fun _ => 0)))) 1 rfl rfl (fun _ h => by cases h) (fun _ => rfl) (by decide) (by decide) (by decide) fx hw kw_199 (Nat.le_of_ble_eq_true rfl) (Nat.le_of_ble_eq_true rfl) d_R_init_96 (fun q12 H hw => ?_)
  refine cx_fin (pc := 98) (C := RNR) (T := TTR) (N := 49) (ref := "NovaDeskModel") (ty := (.array .long)) (fs := fI v) (wz := (h0, .inr (0, fI (vset v 28 (.ref q12)))) :: (ws ++ [(q12, .inl (cA 1, 200, .inr (.inl (fun _ => 0))))])) 0 28 inwR tyR_ok nmR rfl rfl (by decide) (by rw [fI_len]; decide) rfl rfl (by decide +kernel) z_hw (fun _ h => h) rfl rfl fx hi hw kw_1095 d_R_init_98 (fun H locs hw => ?_)
  exact kk q12 H locs hw
set_option maxHeartbeats 4000000 in
set_option maxRecDepth 100000 in
theorem z_R_12 (fx : CallFix p m c b_R_init 1 s args GW RNR) (hi : meth.name = "<init>") {v : Nat → Value} {ws : va_W} (hw : CX D vcl (tyl cA) ((h0, .inr (0, fI v)) :: ws) XK A s H locs) (hl : lv_has ls 1 [(0, .ref h0)]) (kk : ∀ (q13 : Nat) (H : Heap) (locs : List Loc), CX D vcl (tyl cA) ((h0, .inr (0, fI (vset v 29 (.ref q13)))) :: (ws ++ [(q13, .inl (cA 0, 200, .inl (fun _ => 0)))])) XK A s H locs → W p l e { frames := 1, cells := 18, slots := 53140, locals := 20 } s m args below meth c H locs 13 41084 Q (F0 m 110 ls [])) : W p l e { frames := 1, cells := 18, slots := 53140, locals := 20 } s m args below meth c H locs 12 40884 Q (F0 m 101 ls []) := by
  have hx := fx.1
  have hb := fx.2.1
  refine lv_aload_n (pc := 101) hx hb d_R_init_101 rfl (lv_at hl 0 rfl) ?_
  refine lv_sipush (pc := 102) (v := 200) hx hb d_R_init_102 (by decide) ?_
  refine cx_newa (pc := 105) (ty := .int) (N' := 200) (a0 := (200, .inl (fun _ => 0))) 0 rfl rfl (fun _ h => by cases h) (fun _ => rfl) (by decide) (by decide) (by decide) fx hw kw_86 (Nat.le_of_ble_eq_true rfl) (Nat.le_of_ble_eq_true rfl) d_R_init_105 (fun q13 H hw => ?_)
  refine cx_fin (pc := 107) (C := RNR) (T := TTR) (N := 49) (ref := "NovaDeskModel") (ty := (.array .int)) (fs := fI v) (wz := (h0, .inr (0, fI (vset v 29 (.ref q13)))) :: (ws ++ [(q13, .inl (cA 0, 200, .inl (fun _ => 0)))])) 0 29 inwR tyR_ok nmR rfl rfl (by decide) (by rw [fI_len]; decide) rfl rfl (by decide +kernel) z_hw (fun _ h => h) rfl rfl fx hi hw kw_1096 d_R_init_107 (fun H locs hw => ?_)
  exact kk q13 H locs hw
set_option maxHeartbeats 4000000 in
set_option maxRecDepth 100000 in
theorem z_R_13 (fx : CallFix p m c b_R_init 1 s args GW RNR) (hi : meth.name = "<init>") {v : Nat → Value} {ws : va_W} (hw : CX D vcl (tyl cA) ((h0, .inr (0, fI v)) :: ws) XK A s H locs) (hl : lv_has ls 1 [(0, .ref h0)]) (kk : ∀ (q14 : Nat) (H : Heap) (locs : List Loc), CX D vcl (tyl cA) ((h0, .inr (0, fI (vset v 31 (.ref q14)))) :: (ws ++ [(q14, .inl (cA 0, 6000, .inl (fun _ => 0)))])) XK A s H locs → W p l e { frames := 1, cells := 18, slots := 53140, locals := 20 } s m args below meth c H locs 14 47084 Q (F0 m 119 ls [])) : W p l e { frames := 1, cells := 18, slots := 53140, locals := 20 } s m args below meth c H locs 13 41084 Q (F0 m 110 ls []) := by
  have hx := fx.1
  have hb := fx.2.1
  refine lv_aload_n (pc := 110) hx hb d_R_init_110 rfl (lv_at hl 0 rfl) ?_
  refine lv_sipush (pc := 111) (v := 6000) hx hb d_R_init_111 (by decide) ?_
  refine cx_newa (pc := 114) (ty := .int) (N' := 6000) (a0 := (6000, .inl (fun _ => 0))) 0 rfl rfl (fun _ h => by cases h) (fun _ => rfl) (by decide) (by decide) (by decide) fx hw kw_86 (Nat.le_of_ble_eq_true rfl) (Nat.le_of_ble_eq_true rfl) d_R_init_114 (fun q14 H hw => ?_)
  refine cx_fin (pc := 116) (C := RNR) (T := TTR) (N := 49) (ref := "NovaDeskModel") (ty := (.array .int)) (fs := fI v) (wz := (h0, .inr (0, fI (vset v 31 (.ref q14)))) :: (ws ++ [(q14, .inl (cA 0, 6000, .inl (fun _ => 0)))])) 0 31 inwR tyR_ok nmR rfl rfl (by decide) (by rw [fI_len]; decide) rfl rfl (by decide +kernel) z_hw (fun _ h => h) rfl rfl fx hi hw kw_1098 d_R_init_116 (fun H locs hw => ?_)
  exact kk q14 H locs hw
set_option maxHeartbeats 4000000 in
set_option maxRecDepth 100000 in
theorem z_R_14 (fx : CallFix p m c b_R_init 1 s args GW RNR) (hi : meth.name = "<init>") {v : Nat → Value} {ws : va_W} (hw : CX D vcl (tyl cA) ((h0, .inr (0, fI v)) :: ws) XK A s H locs) (hl : lv_has ls 1 [(0, .ref h0)]) (kk : ∀ (q15 : Nat) (H : Heap) (locs : List Loc), CX D vcl (tyl cA) ((h0, .inr (0, fI (vset v 32 (.ref q15)))) :: (ws ++ [(q15, .inl (cA 0, 6000, .inl (fun _ => 0)))])) XK A s H locs → W p l e { frames := 1, cells := 18, slots := 53140, locals := 20 } s m args below meth c H locs 15 53084 Q (F0 m 128 ls [])) : W p l e { frames := 1, cells := 18, slots := 53140, locals := 20 } s m args below meth c H locs 14 47084 Q (F0 m 119 ls []) := by
  have hx := fx.1
  have hb := fx.2.1
  refine lv_aload_n (pc := 119) hx hb d_R_init_119 rfl (lv_at hl 0 rfl) ?_
  refine lv_sipush (pc := 120) (v := 6000) hx hb d_R_init_120 (by decide) ?_
  refine cx_newa (pc := 123) (ty := .int) (N' := 6000) (a0 := (6000, .inl (fun _ => 0))) 0 rfl rfl (fun _ h => by cases h) (fun _ => rfl) (by decide) (by decide) (by decide) fx hw kw_86 (Nat.le_of_ble_eq_true rfl) (Nat.le_of_ble_eq_true rfl) d_R_init_123 (fun q15 H hw => ?_)
  refine cx_fin (pc := 125) (C := RNR) (T := TTR) (N := 49) (ref := "NovaDeskModel") (ty := (.array .int)) (fs := fI v) (wz := (h0, .inr (0, fI (vset v 32 (.ref q15)))) :: (ws ++ [(q15, .inl (cA 0, 6000, .inl (fun _ => 0)))])) 0 32 inwR tyR_ok nmR rfl rfl (by decide) (by rw [fI_len]; decide) rfl rfl (by decide +kernel) z_hw (fun _ h => h) rfl rfl fx hi hw kw_1099 d_R_init_125 (fun H locs hw => ?_)
  exact kk q15 H locs hw
set_option maxHeartbeats 4000000 in
set_option maxRecDepth 100000 in
theorem z_R_15 (fx : CallFix p m c b_R_init 1 s args GW RNR) (hi : meth.name = "<init>") {v : Nat → Value} {ws : va_W} (hw : CX D vcl (tyl cA) ((h0, .inr (0, fI v)) :: ws) XK A s H locs) (hl : lv_has ls 1 [(0, .ref h0)]) (kk : ∀ (q16 : Nat) (H : Heap) (locs : List Loc), CX D vcl (tyl cA) ((h0, .inr (0, fI (vset v 40 (.ref q16)))) :: (ws ++ [(q16, .inl (cA 0, 8, .inl (fun _ => 0)))])) XK A s H locs → W p l e { frames := 1, cells := 18, slots := 53140, locals := 20 } s m args below meth c H locs 16 53092 Q (F0 m 136 ls [])) : W p l e { frames := 1, cells := 18, slots := 53140, locals := 20 } s m args below meth c H locs 15 53084 Q (F0 m 128 ls []) := by
  have hx := fx.1
  have hb := fx.2.1
  refine lv_aload_n (pc := 128) hx hb d_R_init_128 rfl (lv_at hl 0 rfl) ?_
  refine lv_bipush (pc := 129) (v := 8) hx hb d_R_init_129 (by decide) ?_
  refine cx_newa (pc := 131) (ty := .int) (N' := 8) (a0 := (8, .inl (fun _ => 0))) 0 rfl rfl (fun _ h => by cases h) (fun _ => rfl) (by decide) (by decide) (by decide) fx hw kw_86 (Nat.le_of_ble_eq_true rfl) (Nat.le_of_ble_eq_true rfl) d_R_init_131 (fun q16 H hw => ?_)
  refine cx_fin (pc := 133) (C := RNR) (T := TTR) (N := 49) (ref := "NovaDeskModel") (ty := (.array .int)) (fs := fI v) (wz := (h0, .inr (0, fI (vset v 40 (.ref q16)))) :: (ws ++ [(q16, .inl (cA 0, 8, .inl (fun _ => 0)))])) 0 40 inwR tyR_ok nmR rfl rfl (by decide) (by rw [fI_len]; decide) rfl rfl (by decide +kernel) z_hw (fun _ h => h) rfl rfl fx hi hw kw_1107 d_R_init_133 (fun H locs hw => ?_)
  exact kk q16 H locs hw
set_option maxHeartbeats 4000000 in
set_option maxRecDepth 100000 in
theorem z_R_16 (fx : CallFix p m c b_R_init 1 s args GW RNR) (hi : meth.name = "<init>") {v : Nat → Value} {ws : va_W} (hw : CX D vcl (tyl cA) ((h0, .inr (0, fI v)) :: ws) XK A s H locs) (hl : lv_has ls 1 [(0, .ref h0)]) (kk : ∀ (q17 : Nat) (H : Heap) (locs : List Loc), CX D vcl (tyl cA) ((h0, .inr (0, fI (vset v 41 (.ref q17)))) :: (ws ++ [(q17, .inl (cA 0, 8, .inl (fun _ => 0)))])) XK A s H locs → W p l e { frames := 1, cells := 18, slots := 53140, locals := 20 } s m args below meth c H locs 17 53100 Q (F0 m 144 ls [])) : W p l e { frames := 1, cells := 18, slots := 53140, locals := 20 } s m args below meth c H locs 16 53092 Q (F0 m 136 ls []) := by
  have hx := fx.1
  have hb := fx.2.1
  refine lv_aload_n (pc := 136) hx hb d_R_init_136 rfl (lv_at hl 0 rfl) ?_
  refine lv_bipush (pc := 137) (v := 8) hx hb d_R_init_137 (by decide) ?_
  refine cx_newa (pc := 139) (ty := .int) (N' := 8) (a0 := (8, .inl (fun _ => 0))) 0 rfl rfl (fun _ h => by cases h) (fun _ => rfl) (by decide) (by decide) (by decide) fx hw kw_86 (Nat.le_of_ble_eq_true rfl) (Nat.le_of_ble_eq_true rfl) d_R_init_139 (fun q17 H hw => ?_)
  refine cx_fin (pc := 141) (C := RNR) (T := TTR) (N := 49) (ref := "NovaDeskModel") (ty := (.array .int)) (fs := fI v) (wz := (h0, .inr (0, fI (vset v 41 (.ref q17)))) :: (ws ++ [(q17, .inl (cA 0, 8, .inl (fun _ => 0)))])) 0 41 inwR tyR_ok nmR rfl rfl (by decide) (by rw [fI_len]; decide) rfl rfl (by decide +kernel) z_hw (fun _ h => h) rfl rfl fx hi hw kw_1108 d_R_init_141 (fun H locs hw => ?_)
  exact kk q17 H locs hw
set_option maxHeartbeats 4000000 in
set_option maxRecDepth 100000 in
theorem z_R_17 (fx : CallFix p m c b_R_init 1 s args GW RNR) (hi : meth.name = "<init>") {v : Nat → Value} {ws : va_W} (hw : CX D vcl (tyl cA) ((h0, .inr (0, fI v)) :: ws) XK A s H locs) (hl : lv_has ls 1 [(0, .ref h0)]) (kk : ∀ (q18 : Nat) (H : Heap) (locs : List Loc), CX D vcl (tyl cA) ((h0, .inr (0, fI (vset v 46 (.ref q18)))) :: (ws ++ [(q18, .inl (cA 0, 40, .inl (fun _ => 0)))])) XK A s H locs → W p l e { frames := 1, cells := 18, slots := 53140, locals := 20 } s m args below meth c H locs 18 53140 Q (F0 m 152 ls [])) : W p l e { frames := 1, cells := 18, slots := 53140, locals := 20 } s m args below meth c H locs 17 53100 Q (F0 m 144 ls []) := by
  have hx := fx.1
  have hb := fx.2.1
  refine lv_aload_n (pc := 144) hx hb d_R_init_144 rfl (lv_at hl 0 rfl) ?_
  refine lv_bipush (pc := 145) (v := 40) hx hb d_R_init_145 (by decide) ?_
  refine cx_newa (pc := 147) (ty := .int) (N' := 40) (a0 := (40, .inl (fun _ => 0))) 0 rfl rfl (fun _ h => by cases h) (fun _ => rfl) (by decide) (by decide) (by decide) fx hw kw_86 (Nat.le_of_ble_eq_true rfl) (Nat.le_of_ble_eq_true rfl) d_R_init_147 (fun q18 H hw => ?_)
  refine cx_fin (pc := 149) (C := RNR) (T := TTR) (N := 49) (ref := "NovaDeskModel") (ty := (.array .int)) (fs := fI v) (wz := (h0, .inr (0, fI (vset v 46 (.ref q18)))) :: (ws ++ [(q18, .inl (cA 0, 40, .inl (fun _ => 0)))])) 0 46 inwR tyR_ok nmR rfl rfl (by decide) (by rw [fI_len]; decide) rfl rfl (by decide +kernel) z_hw (fun _ h => h) rfl rfl fx hi hw kw_1113 d_R_init_149 (fun H locs hw => ?_)
  exact kk q18 H locs hw
end RI
set_option maxRecDepth 100000 in
theorem w1e (cA : Nat → ClassId) (h0 q1 q2 q3 q4 q5 q6 q7 q8 q9 q10 q11 q12 q13 q14 q15 q16 q17 q18 : Nat) : ((h0, .inr (0, fI (vset (vset (vset (vset (vset (vset (vset (vset (vset (vset (vset (vset (vset (vset (vset (vset (vset (vset v0R 0 (.ref q1)) 1 (.ref q2)) 11 (.ref q3)) 12 (.ref q4)) 13 (.ref q5)) 14 (.ref q6)) 15 (.ref q7)) 17 (.ref q8)) 20 (.ref q9)) 25 (.ref q10)) 26 (.ref q11)) 28 (.ref q12)) 29 (.ref q13)) 31 (.ref q14)) 32 (.ref q15)) 40 (.ref q16)) 41 (.ref q17)) 46 (.ref q18)))) :: (((((((((((((((((([] ++ [(q1, .inl (cA 0, 32768, .inl (fun _ => 0)))]) ++ [(q2, .inl (cA 0, 4, .inl (fun _ => 0)))]) ++ [(q3, .inl (cA 0, 3, .inl (fun _ => 0)))]) ++ [(q4, .inl (cA 3, 3, .inl (fun _ => 0)))]) ++ [(q5, .inl (cA 3, 3, .inl (fun _ => 0)))]) ++ [(q6, .inl (cA 0, 3, .inl (fun _ => 0)))]) ++ [(q7, .inl (cA 0, 500, .inl (fun _ => 0)))]) ++ [(q8, .inl (cA 0, 1000, .inl (fun _ => 0)))]) ++ [(q9, .inl (cA 2, 6000, .inl (fun _ => 0)))]) ++ [(q10, .inl (cA 1, 200, .inr (.inl (fun _ => 0))))]) ++ [(q11, .inl (cA 0, 200, .inl (fun _ => 0)))]) ++ [(q12, .inl (cA 1, 200, .inr (.inl (fun _ => 0))))]) ++ [(q13, .inl (cA 0, 200, .inl (fun _ => 0)))]) ++ [(q14, .inl (cA 0, 6000, .inl (fun _ => 0)))]) ++ [(q15, .inl (cA 0, 6000, .inl (fun _ => 0)))]) ++ [(q16, .inl (cA 0, 8, .inl (fun _ => 0)))]) ++ [(q17, .inl (cA 0, 8, .inl (fun _ => 0)))]) ++ [(q18, .inl (cA 0, 40, .inl (fun _ => 0)))]) : va_W) = w1_R_init cA h0 (fun k => ([q1, q2, q3, q4, q5, q6, q7, q8, q9, q10, q11, q12, q13, q14, q15, q16, q17, q18] : List Nat).getD k 0) := rfl
set_option maxHeartbeats 4000000 in
set_option maxRecDepth 100000 in
theorem c_R_init (l : Launch) (D : va_G) (cA : Nat → ClassId) (h0 : Nat) : mC l y_R_init b_R_init 1 1 18 53140 20 D vcl (tyl cA) XK [(h0, .inr (0, [.null, .null, .int 0, .int 0, .int 0, .int 0, .int 0, .int 0, .int 0, .int 0, .int 0, .null, .null, .null, .null, .null, .int 0, .null, .int 0, .int 0, .null, .int 0, .int 0, .int 0, .int 0, .null, .null, .int 0, .null, .null, .int 0, .null, .null, .int 0, .int 0, .int 0, .int 0, .int 0, .int 0, .long 0, .null, .null, .int 0, .int 0, .int 0, .int 0, .null, .int 0, .int 0]))] [.ref h0] (w1_R_init cA h0) := by
  refine met_C (by decide) rfl (Nat.le_of_ble_eq_true rfl) (fun p e s m args below meth c A Q fx hi HR H ls hw hl => ?_)
  have hx := fx.1
  have hb := fx.2.1
  have hl : lv_has ls 1 [(0, .ref h0)] := hl
  refine lv_aload_n (pc := 0) hx hb d_R_init_0 rfl (lv_at hl 0 rfl) ?_
  refine cx_obj (pc := 1) fx kw_1065 kw_32 kw_33 hl.1 d_R_init_1 (Nat.le_of_ble_eq_true rfl) (Nat.le_of_ble_eq_true rfl) (Nat.le_of_ble_eq_true rfl) ?_
  rw [← fI0] at hw
  refine z_R_0 fx hi hw hl (fun q1 H locs hw => ?_)
  refine z_R_1 fx hi hw hl (fun q2 H locs hw => ?_)
  refine z_R_2 fx hi hw hl (fun q3 H locs hw => ?_)
  refine z_R_3 fx hi hw hl (fun q4 H locs hw => ?_)
  refine z_R_4 fx hi hw hl (fun q5 H locs hw => ?_)
  refine z_R_5 fx hi hw hl (fun q6 H locs hw => ?_)
  refine z_R_6 fx hi hw hl (fun q7 H locs hw => ?_)
  refine z_R_7 fx hi hw hl (fun q8 H locs hw => ?_)
  refine z_R_8 fx hi hw hl (fun q9 H locs hw => ?_)
  refine z_R_9 fx hi hw hl (fun q10 H locs hw => ?_)
  refine z_R_10 fx hi hw hl (fun q11 H locs hw => ?_)
  refine z_R_11 fx hi hw hl (fun q12 H locs hw => ?_)
  refine z_R_12 fx hi hw hl (fun q13 H locs hw => ?_)
  refine z_R_13 fx hi hw hl (fun q14 H locs hw => ?_)
  refine z_R_14 fx hi hw hl (fun q15 H locs hw => ?_)
  refine z_R_15 fx hi hw hl (fun q16 H locs hw => ?_)
  refine z_R_16 fx hi hw hl (fun q17 H locs hw => ?_)
  refine z_R_17 fx hi hw hl (fun q18 H locs hw => ?_)
  rw [w1e] at hw
  exact HR (fun k => ([q1, q2, q3, q4, q5, q6, q7, q8, q9, q10, q11, q12, q13, q14, q15, q16, q17, q18] : List Nat).getD k 0) d_R_init_152 hw
