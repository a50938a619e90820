/-! the law's helpers, by program -/
theorem cw_W_7 : CVW "NovaDeskLaw" 7 "NovaDesk" y_N_put b_N_put 4 ((Option.some Jvm.ClassFile.FieldType.int)) 2 := cvw kw_652 kw_653 kw_654 kw_1 kw_655 (by decide +kernel)
set_option maxHeartbeats 4000000 in
set_option maxRecDepth 100000 in
theorem hl_put {l : Launch} {D : va_G} {cA : Nat → ClassId} {a : Nat → Nat} {ad : Nat → Nat → Nat} (hfl : l.flags = flags0) {o : Nat} {g : Nat → Int64} {σ : SS} {Φ : Int32 → (Nat → Int64) → SS → Prop} {x1 : Int32} {x2 : Int32} (h : f_N_put (fun r u => Φ 0 (vp_updL g 0 r.toInt64) u, fun k u => (k = 1 ∧ Φ 1 g u)) σ x1 x2) : mH l y_W_put b_W_put 5 [(0, 10, 13, 13)] 8 1 6 124 D vcl (tyl cA) (XL ad) ([oc cA o g] ++ wC cA a σ) (fun q : (Nat → Int64) × SS => [oc cA o q.1] ++ wC cA a q.2) [.ref (a 0), .int x1, .int x2, .ref o] (fun k q => Φ k q.1 q.2) := by
  refine met_H (by decide) (Nat.le_of_ble_eq_true rfl) (fun p e s m args below meth c A Q fx hpl hh HR H ls hw hl => ?_)
  have hx := fx.1
  have hb := fx.2.1
  have hX := hw.2.2.2.2.2
  have hl : lv_has ls 5 [(0, .ref (a 0)), (1, .int x1), (2, .int x2), (3, .ref o)] := hl
  refine lv_aload_n (pc := 0) hx hb d_W_put_0 rfl (lv_at hl 3 rfl) ?_
  refine lv_iconst (pc := 1) (v := 0) hx hb d_W_put_1 (by decide) ?_
  refine lv_aload_n (pc := 2) hx hb d_W_put_2 rfl (lv_at hl 0 rfl) ?_
  refine lv_iload_n (pc := 3) hx hb d_W_put_3 rfl (lv_at hl 1 rfl) ?_
  refine lv_iload_n (pc := 4) hx hb d_W_put_4 rfl (lv_at hl 2 rfl) ?_
  refine rsTu (pc := 5) hw (rnTV (pc := 5) fx (c_N_put hfl h _) (pw_blind xtC) (fun U hU hW => ⟨rfl, cx_pre xtC (cx_w xl_c (cxt_pre hw)) hU hW⟩) cw_W_7 (rcC_0 (cx_w xl_c (cxt_pre hw))) rfl ⟨Nat.le_of_ble_eq_true rfl, Nat.le_of_ble_eq_true rfl⟩ hl.1 (Nat.le_of_ble_eq_true rfl) d_W_put_5 ⟨Nat.le_of_ble_eq_true rfl, Nat.le_of_ble_eq_true rfl⟩) (fun r σ1 H locs hw h => ?_) (fun x9 kd σ1 H locs hw h hE hz => ?_)
  · refine W.eq (g2 := F0 m 8 ls [.int r, .int 0, .ref o]) rfl ?_
    refine lv_i2l (pc := 8) (v := r.toInt64) hx hb d_W_put_8 rfl ?_
    refine va_last (pc := 9) fx.1 fx.2.1 hw.1 hw.2.1 hw.2.2.1 hw.2.2.2.1 0 1 rfl rfl (by unfold vp_in; decide) d_W_put_9 (fun H locs hP hD hS => ?_)
    have hw : CX D vcl (tyl cA) ([oc cA o (vp_updL g 0 r.toInt64)] ++ wC cA a σ1) (XL ad) A s H locs := ⟨hw.1, hP, hD, hS, hw.2.2.2.2⟩
    refine lv_goto (pc := 10) (tgt := 17) hx hb d_W_put_10 rfl ?_
    refine lv_iconst (pc := 17) (v := 0) hx hb d_W_put_17 (by decide) ?_
    exact HR (b := (vp_updL g 0 r.toInt64, σ1)) (Nat.le_of_ble_eq_true rfl) (Nat.le_of_ble_eq_true rfl) d_W_put_18 h hw
  · obtain ⟨rfl, h⟩ := h
    refine WX.one (k := 1) (by decide) fx hpl hX hE hh kw_651 (by decide) (by decide) ?_
    refine lv_astore (pc := 13) (x := x9) hx hb d_W_put_13 hl (by decide) rfl (fun ls hl => ?_)
    refine lv_iconst (pc := 15) (v := 1) hx hb d_W_put_15 (by decide) ?_
    exact HR (b := (g, σ1)) (Nat.le_of_ble_eq_true rfl) (Nat.le_of_ble_eq_true rfl) d_W_put_16 h hw
theorem cw_W_15 : CVW "NovaDeskLaw" 15 "NovaDesk" y_N_word b_N_word 2 ((Option.some Jvm.ClassFile.FieldType.int)) 1 := cvw kw_731 kw_732 kw_733 kw_1 kw_734 (by decide +kernel)
set_option maxHeartbeats 4000000 in
set_option maxRecDepth 100000 in
theorem hl_word {l : Launch} {D : va_G} {cA : Nat → ClassId} {a : Nat → Nat} {ad : Nat → Nat → Nat} (hfl : l.flags = flags0) {o : Nat} {g : Nat → Int64} {σ : SS} {Φ : Int32 → (Nat → Int64) → SS → Prop} {x1 : Int32} (h : f_N_word (fun r u => Φ 0 (vp_updL g 0 r.toInt64) u, fun k u => (k = 1 ∧ Φ 1 g u)) σ x1) : mH l y_W_word b_W_word 4 [(0, 9, 12, 13)] 8 1 6 122 D vcl (tyl cA) (XL ad) ([oc cA o g] ++ wC cA a σ) (fun q : (Nat → Int64) × SS => [oc cA o q.1] ++ wC cA a q.2) [.ref (a 0), .int x1, .ref o] (fun k q => Φ k q.1 q.2) := by
  refine met_H (by decide) (Nat.le_of_ble_eq_true rfl) (fun p e s m args below meth c A Q fx hpl hh HR H ls hw hl => ?_)
  have hx := fx.1
  have hb := fx.2.1
  have hX := hw.2.2.2.2.2
  have hl : lv_has ls 4 [(0, .ref (a 0)), (1, .int x1), (2, .ref o)] := hl
  refine lv_aload_n (pc := 0) hx hb d_W_word_0 rfl (lv_at hl 2 rfl) ?_
  refine lv_iconst (pc := 1) (v := 0) hx hb d_W_word_1 (by decide) ?_
  refine lv_aload_n (pc := 2) hx hb d_W_word_2 rfl (lv_at hl 0 rfl) ?_
  refine lv_iload_n (pc := 3) hx hb d_W_word_3 rfl (lv_at hl 1 rfl) ?_
  refine rsTu (pc := 4) hw (rnTV (pc := 4) fx (c_N_word hfl h _) (pw_blind xtC) (fun U hU hW => ⟨rfl, cx_pre xtC (cx_w xl_c (cxt_pre hw)) hU hW⟩) cw_W_15 (rcC_0 (cx_w xl_c (cxt_pre hw))) rfl ⟨Nat.le_of_ble_eq_true rfl, Nat.le_of_ble_eq_true rfl⟩ hl.1 (Nat.le_of_ble_eq_true rfl) d_W_word_4 ⟨Nat.le_of_ble_eq_true rfl, Nat.le_of_ble_eq_true rfl⟩) (fun r σ1 H locs hw h => ?_) (fun x9 kd σ1 H locs hw h hE hz => ?_)
  · refine W.eq (g2 := F0 m 7 ls [.int r, .int 0, .ref o]) rfl ?_
    refine lv_i2l (pc := 7) (v := r.toInt64) hx hb d_W_word_7 rfl ?_
    refine va_last (pc := 8) fx.1 fx.2.1 hw.1 hw.2.1 hw.2.2.1 hw.2.2.2.1 0 1 rfl rfl (by unfold vp_in; decide) d_W_word_8 (fun H locs hP hD hS => ?_)
    have hw : CX D vcl (tyl cA) ([oc cA o (vp_updL g 0 r.toInt64)] ++ wC cA a σ1) (XL ad) A s H locs := ⟨hw.1, hP, hD, hS, hw.2.2.2.2⟩
    refine lv_goto (pc := 9) (tgt := 15) hx hb d_W_word_9 rfl ?_
    refine lv_iconst (pc := 15) (v := 0) hx hb d_W_word_15 (by decide) ?_
    exact HR (b := (vp_updL g 0 r.toInt64, σ1)) (Nat.le_of_ble_eq_true rfl) (Nat.le_of_ble_eq_true rfl) d_W_word_16 h hw
  · obtain ⟨rfl, h⟩ := h
    refine WX.one (k := 1) (by decide) fx hpl hX hE hh kw_651 (by decide) (by decide) ?_
    refine lv_astore_n (pc := 12) (x := x9) hx hb d_W_word_12 rfl hl (by decide) rfl (fun ls hl => ?_)
    refine lv_iconst (pc := 13) (v := 1) hx hb d_W_word_13 (by decide) ?_
    exact HR (b := (g, σ1)) (Nat.le_of_ble_eq_true rfl) (Nat.le_of_ble_eq_true rfl) d_W_word_14 h hw
theorem cw_W_19 : CVW "NovaDeskLaw" 19 "NovaDesk" y_N_set b_N_set 4 ((Option.some Jvm.ClassFile.FieldType.int)) 2 := cvw kw_738 kw_739 kw_740 kw_1 kw_741 (by decide +kernel)
set_option maxHeartbeats 4000000 in
set_option maxRecDepth 100000 in
theorem hl_set {l : Launch} {D : va_G} {cA : Nat → ClassId} {a : Nat → Nat} {ad : Nat → Nat → Nat} (hfl : l.flags = flags0) {o : Nat} {g : Nat → Int64} {σ : SS} {Φ : Int32 → (Nat → Int64) → SS → Prop} {x1 : Int32} {x2 : Int32} (h : f_N_set (fun r u => Φ 0 (vp_updL g 0 r.toInt64) u, fun k u => (k = 1 ∧ Φ 1 g u)) σ x1 x2) : mH l y_W_set b_W_set 5 [(0, 10, 13, 13)] 8 1 6 124 D vcl (tyl cA) (XL ad) ([oc cA o g] ++ wC cA a σ) (fun q : (Nat → Int64) × SS => [oc cA o q.1] ++ wC cA a q.2) [.ref (a 0), .int x1, .int x2, .ref o] (fun k q => Φ k q.1 q.2) := by
  refine met_H (by decide) (Nat.le_of_ble_eq_true rfl) (fun p e s m args below meth c A Q fx hpl hh HR H ls hw hl => ?_)
  have hx := fx.1
  have hb := fx.2.1
  have hX := hw.2.2.2.2.2
  have hl : lv_has ls 5 [(0, .ref (a 0)), (1, .int x1), (2, .int x2), (3, .ref o)] := hl
  refine lv_aload_n (pc := 0) hx hb d_W_set_0 rfl (lv_at hl 3 rfl) ?_
  refine lv_iconst (pc := 1) (v := 0) hx hb d_W_set_1 (by decide) ?_
  refine lv_aload_n (pc := 2) hx hb d_W_set_2 rfl (lv_at hl 0 rfl) ?_
  refine lv_iload_n (pc := 3) hx hb d_W_set_3 rfl (lv_at hl 1 rfl) ?_
  refine lv_iload_n (pc := 4) hx hb d_W_set_4 rfl (lv_at hl 2 rfl) ?_
  refine rsTu (pc := 5) hw (rnTV (pc := 5) fx (c_N_set hfl h _) (pw_blind xtC) (fun U hU hW => ⟨rfl, cx_pre xtC (cx_w xl_c (cxt_pre hw)) hU hW⟩) cw_W_19 (rcC_0 (cx_w xl_c (cxt_pre hw))) rfl ⟨Nat.le_of_ble_eq_true rfl, Nat.le_of_ble_eq_true rfl⟩ hl.1 (Nat.le_of_ble_eq_true rfl) d_W_set_5 ⟨Nat.le_of_ble_eq_true rfl, Nat.le_of_ble_eq_true rfl⟩) (fun r σ1 H locs hw h => ?_) (fun x9 kd σ1 H locs hw h hE hz => ?_)
  · refine W.eq (g2 := F0 m 8 ls [.int r, .int 0, .ref o]) rfl ?_
    refine lv_i2l (pc := 8) (v := r.toInt64) hx hb d_W_set_8 rfl ?_
    refine va_last (pc := 9) fx.1 fx.2.1 hw.1 hw.2.1 hw.2.2.1 hw.2.2.2.1 0 1 rfl rfl (by unfold vp_in; decide) d_W_set_9 (fun H locs hP hD hS => ?_)
    have hw : CX D vcl (tyl cA) ([oc cA o (vp_updL g 0 r.toInt64)] ++ wC cA a σ1) (XL ad) A s H locs := ⟨hw.1, hP, hD, hS, hw.2.2.2.2⟩
    refine lv_goto (pc := 10) (tgt := 17) hx hb d_W_set_10 rfl ?_
    refine lv_iconst (pc := 17) (v := 0) hx hb d_W_set_17 (by decide) ?_
    exact HR (b := (vp_updL g 0 r.toInt64, σ1)) (Nat.le_of_ble_eq_true rfl) (Nat.le_of_ble_eq_true rfl) d_W_set_18 h hw
  · obtain ⟨rfl, h⟩ := h
    refine WX.one (k := 1) (by decide) fx hpl hX hE hh kw_651 (by decide) (by decide) ?_
    refine lv_astore (pc := 13) (x := x9) hx hb d_W_set_13 hl (by decide) rfl (fun ls hl => ?_)
    refine lv_iconst (pc := 15) (v := 1) hx hb d_W_set_15 (by decide) ?_
    exact HR (b := (g, σ1)) (Nat.le_of_ble_eq_true rfl) (Nat.le_of_ble_eq_true rfl) d_W_set_16 h hw
theorem cw_W_22 : CVW "NovaDeskLaw" 22 "NovaDesk" y_N_register b_N_register 2 ((Option.some Jvm.ClassFile.FieldType.int)) 1 := cvw kw_756 kw_757 kw_758 kw_1 kw_759 (by decide +kernel)
set_option maxHeartbeats 4000000 in
set_option maxRecDepth 100000 in
theorem hl_register {l : Launch} {D : va_G} {cA : Nat → ClassId} {a : Nat → Nat} {ad : Nat → Nat → Nat} (hfl : l.flags = flags0) {o : Nat} {g : Nat → Int64} {σ : SS} {Φ : Int32 → (Nat → Int64) → SS → Prop} {x1 : Int32} (h : f_N_register (fun r u => Φ 0 (vp_updL g 0 r.toInt64) u, fun k u => (k = 1 ∧ Φ 1 g u)) σ x1) : mH l y_W_register b_W_register 4 [(0, 9, 12, 13)] 8 1 6 122 D vcl (tyl cA) (XL ad) ([oc cA o g] ++ wC cA a σ) (fun q : (Nat → Int64) × SS => [oc cA o q.1] ++ wC cA a q.2) [.ref (a 0), .int x1, .ref o] (fun k q => Φ k q.1 q.2) := by
  refine met_H (by decide) (Nat.le_of_ble_eq_true rfl) (fun p e s m args below meth c A Q fx hpl hh HR H ls hw hl => ?_)
  have hx := fx.1
  have hb := fx.2.1
  have hX := hw.2.2.2.2.2
  have hl : lv_has ls 4 [(0, .ref (a 0)), (1, .int x1), (2, .ref o)] := hl
  refine lv_aload_n (pc := 0) hx hb d_W_register_0 rfl (lv_at hl 2 rfl) ?_
  refine lv_iconst (pc := 1) (v := 0) hx hb d_W_register_1 (by decide) ?_
  refine lv_aload_n (pc := 2) hx hb d_W_register_2 rfl (lv_at hl 0 rfl) ?_
  refine lv_iload_n (pc := 3) hx hb d_W_register_3 rfl (lv_at hl 1 rfl) ?_
  refine rsTu (pc := 4) hw (rnTV (pc := 4) fx (c_N_register hfl h _) (pw_blind xtC) (fun U hU hW => ⟨rfl, cx_pre xtC (cx_w xl_c (cxt_pre hw)) hU hW⟩) cw_W_22 (rcC_0 (cx_w xl_c (cxt_pre hw))) rfl ⟨Nat.le_of_ble_eq_true rfl, Nat.le_of_ble_eq_true rfl⟩ hl.1 (Nat.le_of_ble_eq_true rfl) d_W_register_4 ⟨Nat.le_of_ble_eq_true rfl, Nat.le_of_ble_eq_true rfl⟩) (fun r σ1 H locs hw h => ?_) (fun x9 kd σ1 H locs hw h hE hz => ?_)
  · refine W.eq (g2 := F0 m 7 ls [.int r, .int 0, .ref o]) rfl ?_
    refine lv_i2l (pc := 7) (v := r.toInt64) hx hb d_W_register_7 rfl ?_
    refine va_last (pc := 8) fx.1 fx.2.1 hw.1 hw.2.1 hw.2.2.1 hw.2.2.2.1 0 1 rfl rfl (by unfold vp_in; decide) d_W_register_8 (fun H locs hP hD hS => ?_)
    have hw : CX D vcl (tyl cA) ([oc cA o (vp_updL g 0 r.toInt64)] ++ wC cA a σ1) (XL ad) A s H locs := ⟨hw.1, hP, hD, hS, hw.2.2.2.2⟩
    refine lv_goto (pc := 9) (tgt := 15) hx hb d_W_register_9 rfl ?_
    refine lv_iconst (pc := 15) (v := 0) hx hb d_W_register_15 (by decide) ?_
    exact HR (b := (vp_updL g 0 r.toInt64, σ1)) (Nat.le_of_ble_eq_true rfl) (Nat.le_of_ble_eq_true rfl) d_W_register_16 h hw
  · obtain ⟨rfl, h⟩ := h
    refine WX.one (k := 1) (by decide) fx hpl hX hE hh kw_651 (by decide) (by decide) ?_
    refine lv_astore_n (pc := 12) (x := x9) hx hb d_W_register_12 rfl hl (by decide) rfl (fun ls hl => ?_)
    refine lv_iconst (pc := 13) (v := 1) hx hb d_W_register_13 (by decide) ?_
    exact HR (b := (g, σ1)) (Nat.le_of_ble_eq_true rfl) (Nat.le_of_ble_eq_true rfl) d_W_register_14 h hw
theorem cw_W_25 : CVW "NovaDeskLaw" 25 "NovaDesk" y_N_device b_N_device 3 ((Option.some Jvm.ClassFile.FieldType.int)) 2 := cvw kw_763 kw_764 kw_765 kw_1 kw_766 (by decide +kernel)
set_option maxHeartbeats 4000000 in
set_option maxRecDepth 100000 in
theorem hl_device {l : Launch} {D : va_G} {cA : Nat → ClassId} {a : Nat → Nat} {ad : Nat → Nat → Nat} (hfl : l.flags = flags0) {o : Nat} {g : Nat → Int64} {σ : SS} {Φ : Int32 → (Nat → Int64) → SS → Prop} {x1 : Int32} {x2 : Int32} (h : f_N_device (fun r u => Φ 0 (vp_updL g 0 r.toInt64) u, fun k u => (k = 1 ∧ Φ 1 g u)) σ x1 x2) : mH l y_W_device b_W_device 5 [(0, 10, 13, 13)] 8 1 6 123 D vcl (tyl cA) (XL ad) ([oc cA o g] ++ wC cA a σ) (fun q : (Nat → Int64) × SS => [oc cA o q.1] ++ wC cA a q.2) [.ref (a 0), .int x1, .int x2, .ref o] (fun k q => Φ k q.1 q.2) := by
  refine met_H (by decide) (Nat.le_of_ble_eq_true rfl) (fun p e s m args below meth c A Q fx hpl hh HR H ls hw hl => ?_)
  have hx := fx.1
  have hb := fx.2.1
  have hX := hw.2.2.2.2.2
  have hl : lv_has ls 5 [(0, .ref (a 0)), (1, .int x1), (2, .int x2), (3, .ref o)] := hl
  refine lv_aload_n (pc := 0) hx hb d_W_device_0 rfl (lv_at hl 3 rfl) ?_
  refine lv_iconst (pc := 1) (v := 0) hx hb d_W_device_1 (by decide) ?_
  refine lv_aload_n (pc := 2) hx hb d_W_device_2 rfl (lv_at hl 0 rfl) ?_
  refine lv_iload_n (pc := 3) hx hb d_W_device_3 rfl (lv_at hl 1 rfl) ?_
  refine lv_iload_n (pc := 4) hx hb d_W_device_4 rfl (lv_at hl 2 rfl) ?_
  refine rsTu (pc := 5) hw (rnTV (pc := 5) fx (c_N_device hfl h _) (pw_blind xtC) (fun U hU hW => ⟨rfl, cx_pre xtC (cx_w xl_c (cxt_pre hw)) hU hW⟩) cw_W_25 (rcC_0 (cx_w xl_c (cxt_pre hw))) rfl ⟨Nat.le_of_ble_eq_true rfl, Nat.le_of_ble_eq_true rfl⟩ hl.1 (Nat.le_of_ble_eq_true rfl) d_W_device_5 ⟨Nat.le_of_ble_eq_true rfl, Nat.le_of_ble_eq_true rfl⟩) (fun r σ1 H locs hw h => ?_) (fun x9 kd σ1 H locs hw h hE hz => ?_)
  · refine W.eq (g2 := F0 m 8 ls [.int r, .int 0, .ref o]) rfl ?_
    refine lv_i2l (pc := 8) (v := r.toInt64) hx hb d_W_device_8 rfl ?_
    refine va_last (pc := 9) fx.1 fx.2.1 hw.1 hw.2.1 hw.2.2.1 hw.2.2.2.1 0 1 rfl rfl (by unfold vp_in; decide) d_W_device_9 (fun H locs hP hD hS => ?_)
    have hw : CX D vcl (tyl cA) ([oc cA o (vp_updL g 0 r.toInt64)] ++ wC cA a σ1) (XL ad) A s H locs := ⟨hw.1, hP, hD, hS, hw.2.2.2.2⟩
    refine lv_goto (pc := 10) (tgt := 17) hx hb d_W_device_10 rfl ?_
    refine lv_iconst (pc := 17) (v := 0) hx hb d_W_device_17 (by decide) ?_
    exact HR (b := (vp_updL g 0 r.toInt64, σ1)) (Nat.le_of_ble_eq_true rfl) (Nat.le_of_ble_eq_true rfl) d_W_device_18 h hw
  · obtain ⟨rfl, h⟩ := h
    refine WX.one (k := 1) (by decide) fx hpl hX hE hh kw_651 (by decide) (by decide) ?_
    refine lv_astore (pc := 13) (x := x9) hx hb d_W_device_13 hl (by decide) rfl (fun ls hl => ?_)
    refine lv_iconst (pc := 15) (v := 1) hx hb d_W_device_15 (by decide) ?_
    exact HR (b := (g, σ1)) (Nat.le_of_ble_eq_true rfl) (Nat.le_of_ble_eq_true rfl) d_W_device_16 h hw
theorem cw_W_28 : CVW "NovaDeskLaw" 28 "NovaDesk" y_N_tape b_N_tape 2 ((Option.some Jvm.ClassFile.FieldType.int)) 1 := cvw kw_779 kw_780 kw_781 kw_1 kw_782 (by decide +kernel)
set_option maxHeartbeats 4000000 in
set_option maxRecDepth 100000 in
theorem hl_tape {l : Launch} {D : va_G} {cA : Nat → ClassId} {a : Nat → Nat} {ad : Nat → Nat → Nat} (hfl : l.flags = flags0) {o : Nat} {g : Nat → Int64} {σ : SS} {Φ : Int32 → (Nat → Int64) → SS → Prop} {x1 : Int32} (h : f_N_tape (fun r u => Φ 0 (vp_updL g 0 r.toInt64) u, fun k u => (k = 1 ∧ Φ 1 g u) ∨ (k = 2 ∧ Φ 2 g u)) σ x1) : mH l y_W_tape b_W_tape 4 [(0, 9, 12, 13), (0, 9, 15, 31)] 8 2 12 122 D vcl (tyl cA) (XL ad) ([oc cA o g] ++ wC cA a σ) (fun q : (Nat → Int64) × SS => [oc cA o q.1] ++ wC cA a q.2) [.ref (a 0), .int x1, .ref o] (fun k q => Φ k q.1 q.2) := by
  refine met_H (by decide) (Nat.le_of_ble_eq_true rfl) (fun p e s m args below meth c A Q fx hpl hh HR H ls hw hl => ?_)
  have hx := fx.1
  have hb := fx.2.1
  have hX := hw.2.2.2.2.2
  have hl : lv_has ls 4 [(0, .ref (a 0)), (1, .int x1), (2, .ref o)] := hl
  refine lv_aload_n (pc := 0) hx hb d_W_tape_0 rfl (lv_at hl 2 rfl) ?_
  refine lv_iconst (pc := 1) (v := 0) hx hb d_W_tape_1 (by decide) ?_
  refine lv_aload_n (pc := 2) hx hb d_W_tape_2 rfl (lv_at hl 0 rfl) ?_
  refine lv_iload_n (pc := 3) hx hb d_W_tape_3 rfl (lv_at hl 1 rfl) ?_
  refine rsTu (pc := 4) hw (rnTV (pc := 4) fx (c_N_tape hfl h _) (pw_blind xtC) (fun U hU hW => ⟨rfl, cx_pre xtC (cx_w xl_c (cxt_pre hw)) hU hW⟩) cw_W_28 (rcC_0 (cx_w xl_c (cxt_pre hw))) rfl ⟨Nat.le_of_ble_eq_true rfl, Nat.le_of_ble_eq_true rfl⟩ hl.1 (Nat.le_of_ble_eq_true rfl) d_W_tape_4 ⟨Nat.le_of_ble_eq_true rfl, Nat.le_of_ble_eq_true rfl⟩) (fun r σ1 H locs hw h => ?_) (fun x9 kd σ1 H locs hw h hE hz => ?_)
  · refine W.eq (g2 := F0 m 7 ls [.int r, .int 0, .ref o]) rfl ?_
    refine lv_i2l (pc := 7) (v := r.toInt64) hx hb d_W_tape_7 rfl ?_
    refine va_last (pc := 8) fx.1 fx.2.1 hw.1 hw.2.1 hw.2.2.1 hw.2.2.2.1 0 1 rfl rfl (by unfold vp_in; decide) d_W_tape_8 (fun H locs hP hD hS => ?_)
    have hw : CX D vcl (tyl cA) ([oc cA o (vp_updL g 0 r.toInt64)] ++ wC cA a σ1) (XL ad) A s H locs := ⟨hw.1, hP, hD, hS, hw.2.2.2.2⟩
    refine lv_goto (pc := 9) (tgt := 18) hx hb d_W_tape_9 rfl ?_
    refine lv_iconst (pc := 18) (v := 0) hx hb d_W_tape_18 (by decide) ?_
    exact HR (b := (vp_updL g 0 r.toInt64, σ1)) (Nat.le_of_ble_eq_true rfl) (Nat.le_of_ble_eq_true rfl) d_W_tape_19 h hw
  · rcases h with ⟨rfl, h⟩ | ⟨rfl, h⟩
    · refine WX.one (k := 1) (by decide) fx hpl hX hE hh kw_651 (by decide) (by decide) ?_
      refine lv_astore_n (pc := 12) (x := x9) hx hb d_W_tape_12 rfl hl (by decide) rfl (fun ls hl => ?_)
      refine lv_iconst (pc := 13) (v := 1) hx hb d_W_tape_13 (by decide) ?_
      exact HR (b := (g, σ1)) (Nat.le_of_ble_eq_true rfl) (Nat.le_of_ble_eq_true rfl) d_W_tape_14 h hw
    · refine WX.two fx hpl hX hE hh kw_651 kw_778 (by decide) (by decide) (by decide) ?_
      refine lv_astore_n (pc := 15) (x := x9) hx hb d_W_tape_15 rfl hl (by decide) rfl (fun ls hl => ?_)
      refine lv_iconst (pc := 16) (v := 2) hx hb d_W_tape_16 (by decide) ?_
      exact HR (b := (g, σ1)) (Nat.le_of_ble_eq_true rfl) (Nat.le_of_ble_eq_true rfl) d_W_tape_17 h hw
theorem cw_W_33 : CVW "NovaDeskLaw" 33 "NovaDesk" y_N_run b_N_run 2 ((Option.some Jvm.ClassFile.FieldType.int)) 1 := cvw kw_808 kw_809 kw_810 kw_1 kw_811 (by decide +kernel)
set_option maxHeartbeats 4000000 in
set_option maxRecDepth 100000 in
theorem hl_run {l : Launch} {D : va_G} {cA : Nat → ClassId} {a : Nat → Nat} {ad : Nat → Nat → Nat} (hfl : l.flags = flags0) {o : Nat} {g : Nat → Int64} {σ : SS} {Φ : Int32 → (Nat → Int64) → SS → Prop} {x1 : Int32} (h : f_N_run (fun r u => Φ 0 (vp_updL g 0 r.toInt64) u, fun k u => (k = 1 ∧ Φ 1 g u)) σ x1) : mH l y_W_run b_W_run 4 [(0, 9, 12, 13)] 8 1 6 181 D vcl (tyl cA) (XL ad) ([oc cA o g] ++ wC cA a σ) (fun q : (Nat → Int64) × SS => [oc cA o q.1] ++ wC cA a q.2) [.ref (a 0), .int x1, .ref o] (fun k q => Φ k q.1 q.2) := by
  refine met_H (by decide) (Nat.le_of_ble_eq_true rfl) (fun p e s m args below meth c A Q fx hpl hh HR H ls hw hl => ?_)
  have hx := fx.1
  have hb := fx.2.1
  have hX := hw.2.2.2.2.2
  have hl : lv_has ls 4 [(0, .ref (a 0)), (1, .int x1), (2, .ref o)] := hl
  refine lv_aload_n (pc := 0) hx hb d_W_run_0 rfl (lv_at hl 2 rfl) ?_
  refine lv_iconst (pc := 1) (v := 0) hx hb d_W_run_1 (by decide) ?_
  refine lv_aload_n (pc := 2) hx hb d_W_run_2 rfl (lv_at hl 0 rfl) ?_
  refine lv_iload_n (pc := 3) hx hb d_W_run_3 rfl (lv_at hl 1 rfl) ?_
  refine rsTu (pc := 4) hw (rnTV (pc := 4) fx (c_N_run hfl h _) (pw_blind xtC) (fun U hU hW => ⟨rfl, cx_pre xtC (cx_w xl_c (cxt_pre hw)) hU hW⟩) cw_W_33 (rcC_0 (cx_w xl_c (cxt_pre hw))) rfl ⟨Nat.le_of_ble_eq_true rfl, Nat.le_of_ble_eq_true rfl⟩ hl.1 (Nat.le_of_ble_eq_true rfl) d_W_run_4 ⟨Nat.le_of_ble_eq_true rfl, Nat.le_of_ble_eq_true rfl⟩) (fun r σ1 H locs hw h => ?_) (fun x9 kd σ1 H locs hw h hE hz => ?_)
  · refine W.eq (g2 := F0 m 7 ls [.int r, .int 0, .ref o]) rfl ?_
    refine lv_i2l (pc := 7) (v := r.toInt64) hx hb d_W_run_7 rfl ?_
    refine va_last (pc := 8) fx.1 fx.2.1 hw.1 hw.2.1 hw.2.2.1 hw.2.2.2.1 0 1 rfl rfl (by unfold vp_in; decide) d_W_run_8 (fun H locs hP hD hS => ?_)
    have hw : CX D vcl (tyl cA) ([oc cA o (vp_updL g 0 r.toInt64)] ++ wC cA a σ1) (XL ad) A s H locs := ⟨hw.1, hP, hD, hS, hw.2.2.2.2⟩
    refine lv_goto (pc := 9) (tgt := 15) hx hb d_W_run_9 rfl ?_
    refine lv_iconst (pc := 15) (v := 0) hx hb d_W_run_15 (by decide) ?_
    exact HR (b := (vp_updL g 0 r.toInt64, σ1)) (Nat.le_of_ble_eq_true rfl) (Nat.le_of_ble_eq_true rfl) d_W_run_16 h hw
  · obtain ⟨rfl, h⟩ := h
    refine WX.one (k := 1) (by decide) fx hpl hX hE hh kw_651 (by decide) (by decide) ?_
    refine lv_astore_n (pc := 12) (x := x9) hx hb d_W_run_12 rfl hl (by decide) rfl (fun ls hl => ?_)
    refine lv_iconst (pc := 13) (v := 1) hx hb d_W_run_13 (by decide) ?_
    exact HR (b := (g, σ1)) (Nat.le_of_ble_eq_true rfl) (Nat.le_of_ble_eq_true rfl) d_W_run_14 h hw
theorem cw_W_36 : CVW "NovaDeskLaw" 36 "NovaDesk" y_N_feed b_N_feed 7 ((Option.some Jvm.ClassFile.FieldType.int)) 5 := cvw kw_967 kw_968 kw_969 kw_1 kw_970 (by decide +kernel)
set_option maxHeartbeats 4000000 in
set_option maxRecDepth 100000 in
theorem hl_feed {l : Launch} {D : va_G} {cA : Nat → ClassId} {a : Nat → Nat} {ad : Nat → Nat → Nat} (hfl : l.flags = flags0) {o : Nat} {g : Nat → Int64} {σ : SS} {Φ : Int32 → (Nat → Int64) → SS → Prop} {x1 : Int32} {x2 : Int32} {x3 : Int32} {x4 : Int32} {x5 : Int32} (h : f_N_feed (fun r u => Φ 0 (vp_updL g 0 r.toInt64) u, fun k u => (k = 2 ∧ Φ 1 g u)) σ x1 x2 x3 x4 x5) : mH l y_W_feed b_W_feed 8 [(0, 16, 19, 31)] 8 1 6 127 D vcl (tyl cA) (XL ad) ([oc cA o g] ++ wC cA a σ) (fun q : (Nat → Int64) × SS => [oc cA o q.1] ++ wC cA a q.2) [.ref (a 0), .int x1, .int x2, .int x3, .int x4, .int x5, .ref o] (fun k q => Φ k q.1 q.2) := by
  refine met_H (by decide) (Nat.le_of_ble_eq_true rfl) (fun p e s m args below meth c A Q fx hpl hh HR H ls hw hl => ?_)
  have hx := fx.1
  have hb := fx.2.1
  have hX := hw.2.2.2.2.2
  have hl : lv_has ls 8 [(0, .ref (a 0)), (1, .int x1), (2, .int x2), (3, .int x3), (4, .int x4), (5, .int x5), (6, .ref o)] := hl
  refine lv_aload (pc := 0) hx hb d_W_feed_0 (lv_at hl 6 rfl) ?_
  refine lv_iconst (pc := 2) (v := 0) hx hb d_W_feed_2 (by decide) ?_
  refine lv_aload_n (pc := 3) hx hb d_W_feed_3 rfl (lv_at hl 0 rfl) ?_
  refine lv_iload_n (pc := 4) hx hb d_W_feed_4 rfl (lv_at hl 1 rfl) ?_
  refine lv_iload_n (pc := 5) hx hb d_W_feed_5 rfl (lv_at hl 2 rfl) ?_
  refine lv_iload_n (pc := 6) hx hb d_W_feed_6 rfl (lv_at hl 3 rfl) ?_
  refine lv_iload (pc := 7) hx hb d_W_feed_7 (lv_at hl 4 rfl) ?_
  refine lv_iload (pc := 9) hx hb d_W_feed_9 (lv_at hl 5 rfl) ?_
  refine rsTu (pc := 11) hw (rnTV (pc := 11) fx (c_N_feed hfl h _) (pw_blind xtC) (fun U hU hW => ⟨rfl, cx_pre xtC (cx_w xl_c (cxt_pre hw)) hU hW⟩) cw_W_36 (rcC_0 (cx_w xl_c (cxt_pre hw))) rfl ⟨Nat.le_of_ble_eq_true rfl, Nat.le_of_ble_eq_true rfl⟩ hl.1 (Nat.le_of_ble_eq_true rfl) d_W_feed_11 ⟨Nat.le_of_ble_eq_true rfl, Nat.le_of_ble_eq_true rfl⟩) (fun r σ1 H locs hw h => ?_) (fun x9 kd σ1 H locs hw h hE hz => ?_)
  · refine W.eq (g2 := F0 m 14 ls [.int r, .int 0, .ref o]) rfl ?_
    refine lv_i2l (pc := 14) (v := r.toInt64) hx hb d_W_feed_14 rfl ?_
    refine va_last (pc := 15) fx.1 fx.2.1 hw.1 hw.2.1 hw.2.2.1 hw.2.2.2.1 0 1 rfl rfl (by unfold vp_in; decide) d_W_feed_15 (fun H locs hP hD hS => ?_)
    have hw : CX D vcl (tyl cA) ([oc cA o (vp_updL g 0 r.toInt64)] ++ wC cA a σ1) (XL ad) A s H locs := ⟨hw.1, hP, hD, hS, hw.2.2.2.2⟩
    refine lv_goto (pc := 16) (tgt := 23) hx hb d_W_feed_16 rfl ?_
    refine lv_iconst (pc := 23) (v := 0) hx hb d_W_feed_23 (by decide) ?_
    exact HR (b := (vp_updL g 0 r.toInt64, σ1)) (Nat.le_of_ble_eq_true rfl) (Nat.le_of_ble_eq_true rfl) d_W_feed_24 h hw
  · obtain ⟨rfl, h⟩ := h
    refine WX.one (k := 2) (by decide) fx hpl hX hE hh kw_778 (by decide) (by decide) ?_
    refine lv_astore (pc := 19) (x := x9) hx hb d_W_feed_19 hl (by decide) rfl (fun ls hl => ?_)
    refine lv_iconst (pc := 21) (v := 1) hx hb d_W_feed_21 (by decide) ?_
    exact HR (b := (g, σ1)) (Nat.le_of_ble_eq_true rfl) (Nat.le_of_ble_eq_true rfl) d_W_feed_22 h hw
theorem cw_W_40 : CVW "NovaDeskLaw" 40 "NovaDesk" y_N_end b_N_end 2 ((Option.none : Option Jvm.ClassFile.FieldType)) 1 := cvw kw_978 kw_979 kw_980 kw_1 kw_981 (by decide +kernel)
set_option maxHeartbeats 4000000 in
set_option maxRecDepth 100000 in
theorem hl_end {l : Launch} {D : va_G} {cA : Nat → ClassId} {a : Nat → Nat} {ad : Nat → Nat → Nat} (hfl : l.flags = flags0) {o : Nat} {g : Nat → Int64} {σ : SS} {Φ : Int32 → (Nat → Int64) → SS → Prop} {x1 : Int32} (h : f_N_end (fun _ u => Φ 0 g u, fun k u => (k = 1 ∧ Φ 1 g u)) σ x1) : mH l y_W_end b_W_end 3 [(0, 5, 8, 13)] 8 1 6 122 D vcl (tyl cA) (XL ad) ([oc cA o g] ++ wC cA a σ) (fun q : (Nat → Int64) × SS => [oc cA o q.1] ++ wC cA a q.2) [.ref (a 0), .int x1] (fun k q => Φ k q.1 q.2) := by
  refine met_H (by decide) (Nat.le_of_ble_eq_true rfl) (fun p e s m args below meth c A Q fx hpl hh HR H ls hw hl => ?_)
  have hx := fx.1
  have hb := fx.2.1
  have hX := hw.2.2.2.2.2
  have hl : lv_has ls 3 [(0, .ref (a 0)), (1, .int x1)] := hl
  refine lv_aload_n (pc := 0) hx hb d_W_end_0 rfl (lv_at hl 0 rfl) ?_
  refine lv_iload_n (pc := 1) hx hb d_W_end_1 rfl (lv_at hl 1 rfl) ?_
  refine rsTu (pc := 2) hw (rnTV (pc := 2) fx (c_N_end hfl h _) (pw_blind xtC) (fun U hU hW => ⟨rfl, cx_pre xtC (cx_w xl_c (cxt_pre hw)) hU hW⟩) cw_W_40 (rcC_0 (cx_w xl_c (cxt_pre hw))) rfl ⟨Nat.le_of_ble_eq_true rfl, Nat.le_of_ble_eq_true rfl⟩ hl.1 (Nat.le_of_ble_eq_true rfl) d_W_end_2 ⟨Nat.le_of_ble_eq_true rfl, Nat.le_of_ble_eq_true rfl⟩) (fun r σ1 H locs hw h => ?_) (fun x9 kd σ1 H locs hw h hE hz => ?_)
  · refine W.eq (g2 := F0 m 5 ls []) rfl ?_
    refine lv_goto (pc := 5) (tgt := 11) hx hb d_W_end_5 rfl ?_
    refine lv_iconst (pc := 11) (v := 0) hx hb d_W_end_11 (by decide) ?_
    exact HR (b := (g, σ1)) (Nat.le_of_ble_eq_true rfl) (Nat.le_of_ble_eq_true rfl) d_W_end_12 h hw
  · obtain ⟨rfl, h⟩ := h
    refine WX.one (k := 1) (by decide) fx hpl hX hE hh kw_651 (by decide) (by decide) ?_
    refine lv_astore_n (pc := 8) (x := x9) hx hb d_W_end_8 rfl hl (by decide) rfl (fun ls hl => ?_)
    refine lv_iconst (pc := 9) (v := 1) hx hb d_W_end_9 (by decide) ?_
    exact HR (b := (g, σ1)) (Nat.le_of_ble_eq_true rfl) (Nat.le_of_ble_eq_true rfl) d_W_end_10 h hw
theorem cw_W_44 : CVW "NovaDeskLaw" 44 "NovaDesk" y_N_fault b_N_fault 2 ((Option.some Jvm.ClassFile.FieldType.int)) 1 := cvw kw_985 kw_986 kw_987 kw_1 kw_988 (by decide +kernel)
set_option maxHeartbeats 4000000 in
set_option maxRecDepth 100000 in
theorem hl_fault {l : Launch} {D : va_G} {cA : Nat → ClassId} {a : Nat → Nat} {ad : Nat → Nat → Nat} (hfl : l.flags = flags0) {o : Nat} {g : Nat → Int64} {σ : SS} {Φ : Int32 → (Nat → Int64) → SS → Prop} {x1 : Int32} (h : f_N_fault (fun r u => Φ 0 (vp_updL g 0 r.toInt64) u, fun k u => (k = 1 ∧ Φ 1 g u)) σ x1) : mH l y_W_fault b_W_fault 4 [(0, 9, 12, 13)] 8 1 6 122 D vcl (tyl cA) (XL ad) ([oc cA o g] ++ wC cA a σ) (fun q : (Nat → Int64) × SS => [oc cA o q.1] ++ wC cA a q.2) [.ref (a 0), .int x1, .ref o] (fun k q => Φ k q.1 q.2) := by
  refine met_H (by decide) (Nat.le_of_ble_eq_true rfl) (fun p e s m args below meth c A Q fx hpl hh HR H ls hw hl => ?_)
  have hx := fx.1
  have hb := fx.2.1
  have hX := hw.2.2.2.2.2
  have hl : lv_has ls 4 [(0, .ref (a 0)), (1, .int x1), (2, .ref o)] := hl
  refine lv_aload_n (pc := 0) hx hb d_W_fault_0 rfl (lv_at hl 2 rfl) ?_
  refine lv_iconst (pc := 1) (v := 0) hx hb d_W_fault_1 (by decide) ?_
  refine lv_aload_n (pc := 2) hx hb d_W_fault_2 rfl (lv_at hl 0 rfl) ?_
  refine lv_iload_n (pc := 3) hx hb d_W_fault_3 rfl (lv_at hl 1 rfl) ?_
  refine rsTu (pc := 4) hw (rnTV (pc := 4) fx (c_N_fault hfl h _) (pw_blind xtC) (fun U hU hW => ⟨rfl, cx_pre xtC (cx_w xl_c (cxt_pre hw)) hU hW⟩) cw_W_44 (rcC_0 (cx_w xl_c (cxt_pre hw))) rfl ⟨Nat.le_of_ble_eq_true rfl, Nat.le_of_ble_eq_true rfl⟩ hl.1 (Nat.le_of_ble_eq_true rfl) d_W_fault_4 ⟨Nat.le_of_ble_eq_true rfl, Nat.le_of_ble_eq_true rfl⟩) (fun r σ1 H locs hw h => ?_) (fun x9 kd σ1 H locs hw h hE hz => ?_)
  · refine W.eq (g2 := F0 m 7 ls [.int r, .int 0, .ref o]) rfl ?_
    refine lv_i2l (pc := 7) (v := r.toInt64) hx hb d_W_fault_7 rfl ?_
    refine va_last (pc := 8) fx.1 fx.2.1 hw.1 hw.2.1 hw.2.2.1 hw.2.2.2.1 0 1 rfl rfl (by unfold vp_in; decide) d_W_fault_8 (fun H locs hP hD hS => ?_)
    have hw : CX D vcl (tyl cA) ([oc cA o (vp_updL g 0 r.toInt64)] ++ wC cA a σ1) (XL ad) A s H locs := ⟨hw.1, hP, hD, hS, hw.2.2.2.2⟩
    refine lv_goto (pc := 9) (tgt := 15) hx hb d_W_fault_9 rfl ?_
    refine lv_iconst (pc := 15) (v := 0) hx hb d_W_fault_15 (by decide) ?_
    exact HR (b := (vp_updL g 0 r.toInt64, σ1)) (Nat.le_of_ble_eq_true rfl) (Nat.le_of_ble_eq_true rfl) d_W_fault_16 h hw
  · obtain ⟨rfl, h⟩ := h
    refine WX.one (k := 1) (by decide) fx hpl hX hE hh kw_651 (by decide) (by decide) ?_
    refine lv_astore_n (pc := 12) (x := x9) hx hb d_W_fault_12 rfl hl (by decide) rfl (fun ls hl => ?_)
    refine lv_iconst (pc := 13) (v := 1) hx hb d_W_fault_13 (by decide) ?_
    exact HR (b := (g, σ1)) (Nat.le_of_ble_eq_true rfl) (Nat.le_of_ble_eq_true rfl) d_W_fault_14 h hw
theorem cw_W_47 : CVW "NovaDeskLaw" 47 "NovaDesk" y_N_tell b_N_tell 2 ((Option.some Jvm.ClassFile.FieldType.int)) 1 := cvw kw_992 kw_993 kw_994 kw_1 kw_995 (by decide +kernel)
set_option maxHeartbeats 4000000 in
set_option maxRecDepth 100000 in
theorem hl_tell {l : Launch} {D : va_G} {cA : Nat → ClassId} {a : Nat → Nat} {ad : Nat → Nat → Nat} (hfl : l.flags = flags0) {o : Nat} {g : Nat → Int64} {σ : SS} {Φ : Int32 → (Nat → Int64) → SS → Prop} {x1 : Int32} (h : f_N_tell (fun r u => Φ 0 (vp_updL g 0 r.toInt64) u, fun k u => (k = 1 ∧ Φ 1 g u)) σ x1) : mH l y_W_tell b_W_tell 4 [(0, 9, 12, 13)] 8 1 6 172 D vcl (tyl cA) (XL ad) ([oc cA o g] ++ wC cA a σ) (fun q : (Nat → Int64) × SS => [oc cA o q.1] ++ wC cA a q.2) [.ref (a 0), .int x1, .ref o] (fun k q => Φ k q.1 q.2) := by
  refine met_H (by decide) (Nat.le_of_ble_eq_true rfl) (fun p e s m args below meth c A Q fx hpl hh HR H ls hw hl => ?_)
  have hx := fx.1
  have hb := fx.2.1
  have hX := hw.2.2.2.2.2
  have hl : lv_has ls 4 [(0, .ref (a 0)), (1, .int x1), (2, .ref o)] := hl
  refine lv_aload_n (pc := 0) hx hb d_W_tell_0 rfl (lv_at hl 2 rfl) ?_
  refine lv_iconst (pc := 1) (v := 0) hx hb d_W_tell_1 (by decide) ?_
  refine lv_aload_n (pc := 2) hx hb d_W_tell_2 rfl (lv_at hl 0 rfl) ?_
  refine lv_iload_n (pc := 3) hx hb d_W_tell_3 rfl (lv_at hl 1 rfl) ?_
  refine rsTu (pc := 4) hw (rnTV (pc := 4) fx (c_N_tell hfl h _) (pw_blind xtC) (fun U hU hW => ⟨rfl, cx_pre xtC (cx_w xl_c (cxt_pre hw)) hU hW⟩) cw_W_47 (rcC_0 (cx_w xl_c (cxt_pre hw))) rfl ⟨Nat.le_of_ble_eq_true rfl, Nat.le_of_ble_eq_true rfl⟩ hl.1 (Nat.le_of_ble_eq_true rfl) d_W_tell_4 ⟨Nat.le_of_ble_eq_true rfl, Nat.le_of_ble_eq_true rfl⟩) (fun r σ1 H locs hw h => ?_) (fun x9 kd σ1 H locs hw h hE hz => ?_)
  · refine W.eq (g2 := F0 m 7 ls [.int r, .int 0, .ref o]) rfl ?_
    refine lv_i2l (pc := 7) (v := r.toInt64) hx hb d_W_tell_7 rfl ?_
    refine va_last (pc := 8) fx.1 fx.2.1 hw.1 hw.2.1 hw.2.2.1 hw.2.2.2.1 0 1 rfl rfl (by unfold vp_in; decide) d_W_tell_8 (fun H locs hP hD hS => ?_)
    have hw : CX D vcl (tyl cA) ([oc cA o (vp_updL g 0 r.toInt64)] ++ wC cA a σ1) (XL ad) A s H locs := ⟨hw.1, hP, hD, hS, hw.2.2.2.2⟩
    refine lv_goto (pc := 9) (tgt := 15) hx hb d_W_tell_9 rfl ?_
    refine lv_iconst (pc := 15) (v := 0) hx hb d_W_tell_15 (by decide) ?_
    exact HR (b := (vp_updL g 0 r.toInt64, σ1)) (Nat.le_of_ble_eq_true rfl) (Nat.le_of_ble_eq_true rfl) d_W_tell_16 h hw
  · obtain ⟨rfl, h⟩ := h
    refine WX.one (k := 1) (by decide) fx hpl hX hE hh kw_651 (by decide) (by decide) ?_
    refine lv_astore_n (pc := 12) (x := x9) hx hb d_W_tell_12 rfl hl (by decide) rfl (fun ls hl => ?_)
    refine lv_iconst (pc := 13) (v := 1) hx hb d_W_tell_13 (by decide) ?_
    exact HR (b := (g, σ1)) (Nat.le_of_ble_eq_true rfl) (Nat.le_of_ble_eq_true rfl) d_W_tell_14 h hw
