/-! constructors -/
def w1_D_init_E (cA : Nat → ClassId) (h0 : Nat) (x1 : Int32) (x2 : Int32) (q : Nat → Nat) : va_W := [(h0, .inr (7, [.int x1, .int x2, .int 0, .int 0, .int 0, .int 0, .null, .int 0, .int 0]))]
set_option maxHeartbeats 4000000 in
set_option maxRecDepth 100000 in
theorem c_D_init_E (l : Launch) (D : va_G) (cA : Nat → ClassId) (h0 : Nat) (x1 : Int32) (x2 : Int32) : mC l y_D_init b_D_init 3 1 0 0 20 D vcl (tyl cA) XK [(h0, .inr (7, [.int 0, .int 0, .int 0, .int 0, .int 0, .int 0, .null, .int 0, .int 0]))] [.ref h0, .int x1, .int x2] (w1_D_init_E cA h0 x1 x2) := by
  refine met_C (by decide) rfl (Nat.le_of_ble_eq_true rfl) (fun p e s m args below meth c A Q fx hi HR H ls hw hl => ?_)
  have hx := fx.1
  have hb := fx.2.1
  have hl : lv_has ls 3 [(0, .ref h0), (1, .int x1), (2, .int x2)] := hl
  refine lv_aload_n (pc := 0) hx hb d_D_init_0 rfl (lv_at hl 0 rfl) ?_
  refine cx_obj (pc := 1) fx kw_49 kw_32 kw_33 hl.1 d_D_init_1 (Nat.le_of_ble_eq_true rfl) (Nat.le_of_ble_eq_true rfl) (Nat.le_of_ble_eq_true rfl) ?_
  refine lv_aload_n (pc := 4) hx hb d_D_init_4 rfl (lv_at hl 0 rfl) ?_
  refine lv_iload_n (pc := 5) hx hb d_D_init_5 rfl (lv_at hl 1 rfl) ?_
  refine cx_fin (pc := 6) (C := RNE) (T := TTE) (N := 9) (ref := "NovaDesk$Device") (ty := .int) (wz := [(h0, .inr (7, [.int x1, .int 0, .int 0, .int 0, .int 0, .int 0, .null, .int 0, .int 0]))]) 0 0 inwE tyE_ok nmE rfl rfl (by decide) (Nat.le_of_ble_eq_true rfl) rfl rfl (by decide +kernel) rfl (fun _ h => h) rfl rfl fx hi hw kw_54 d_D_init_6 (fun H locs hw => ?_)
  refine lv_aload_n (pc := 9) hx hb d_D_init_9 rfl (lv_at hl 0 rfl) ?_
  refine lv_iload_n (pc := 10) hx hb d_D_init_10 rfl (lv_at hl 2 rfl) ?_
  refine cx_fin (pc := 11) (C := RNE) (T := TTE) (N := 9) (ref := "NovaDesk$Device") (ty := .int) (wz := [(h0, .inr (7, [.int x1, .int x2, .int 0, .int 0, .int 0, .int 0, .null, .int 0, .int 0]))]) 0 1 inwE tyE_ok nmE rfl rfl (by decide) (Nat.le_of_ble_eq_true rfl) rfl rfl (by decide +kernel) rfl (fun _ h => h) rfl rfl fx hi hw kw_55 d_D_init_11 (fun H locs hw => ?_)
  exact HR (fun k => ([] : List Nat).getD k 0) d_D_init_14 hw
def w1_E_init (cA : Nat → ClassId) (h0 : Nat) (q : Nat → Nat) : va_W := [(h0, .inr (7, [.int 2, .int 4, .int 0, .int 0, .int 0, .int 0, .ref (q 0), .int 0, .int 0])), ((q 0), .inl (cA 4, 500, .inl (fun _ => 0)))]
set_option maxHeartbeats 4000000 in
set_option maxRecDepth 100000 in
theorem c_E_init (l : Launch) (D : va_G) (cA : Nat → ClassId) (h0 : Nat) : mC l y_E_init b_E_init 1 2 1 500 42 D vcl (tyl cA) XK [(h0, .inr (7, [.int 0, .int 0, .int 0, .int 0, .int 0, .int 0, .null, .int 0, .int 0]))] [.ref h0] (w1_E_init cA h0) := by
  refine met_C (by decide) rfl (Nat.le_of_ble_eq_true rfl) (fun p e s m args below meth c A Q fx hi HR H ls hw hl => ?_)
  have hx := fx.1
  have hb := fx.2.1
  have hl : lv_has ls 1 [(0, .ref h0)] := hl
  refine lv_aload_n (pc := 0) hx hb d_E_init_0 rfl (lv_at hl 0 rfl) ?_
  refine lv_iconst (pc := 1) (v := 2) hx hb d_E_init_1 (by decide) ?_
  refine lv_iconst (pc := 2) (v := 4) hx hb d_E_init_2 (by decide) ?_
  refine cx_res (pc := 3) (u := []) (w0 := [(h0, .inr (7, [.int 0, .int 0, .int 0, .int 0, .int 0, .int 0, .null, .int 0, .int 0]))]) (w1 := w1_D_init_E cA h0 2 4) hw (rnC (n := 2) (pc := 3) (u := []) (w0 := [(h0, .inr (7, [.int 0, .int 0, .int 0, .int 0, .int 0, .int 0, .null, .int 0, .int 0]))]) xtK fx hw (c_D_init_E _ _ _ h0 2 4 _) kw_46 kw_47 kw_3 kw_48 rfl (by decide +kernel) rfl ⟨Nat.le_of_ble_eq_true rfl, Nat.le_of_ble_eq_true rfl⟩ hl.1 (Nat.le_of_ble_eq_true rfl) d_E_init_3 ⟨Nat.le_of_ble_eq_true rfl, Nat.le_of_ble_eq_true rfl⟩) (fun g3 H locs hw => ?_)
  refine lv_aload_n (pc := 6) hx hb d_E_init_6 rfl (lv_at hl 0 rfl) ?_
  refine lv_sipush (pc := 7) (v := 500) hx hb d_E_init_7 (by decide) ?_
  refine cx_newa (pc := 10) (ty := .char) (N' := 500) (a0 := (500, .inl (fun _ => 0))) 4 rfl rfl (fun _ h => by cases h) (fun _ => rfl) (by decide) (by decide) (by decide) fx hw kw_87 (Nat.le_of_ble_eq_true rfl) (Nat.le_of_ble_eq_true rfl) d_E_init_10 (fun q1 H hw => ?_)
  refine cx_fin (pc := 12) (C := RNE) (T := TTE) (N := 9) (ref := "NovaDesk$Reader") (ty := (.array .char)) (wz := [(h0, .inr (7, [.int 2, .int 4, .int 0, .int 0, .int 0, .int 0, .ref q1, .int 0, .int 0]))] ++ [(q1, .inl (cA 4, 500, .inl (fun _ => 0)))]) 0 6 inwE tyE_ok nmE rfl rfl (by decide) (Nat.le_of_ble_eq_true rfl) rfl rfl (by decide +kernel) rfl (fun _ h => h) rfl rfl fx hi hw kw_50 d_E_init_12 (fun H locs hw => ?_)
  exact HR (fun k => ([q1] : List Nat).getD k 0) d_E_init_15 hw
def w1_D_init_P (cA : Nat → ClassId) (h0 : Nat) (x1 : Int32) (x2 : Int32) (q : Nat → Nat) : va_W := [(h0, .inr (8, [.int x1, .int x2, .int 0, .int 0, .int 0, .int 0, .null, .int 0]))]
set_option maxHeartbeats 4000000 in
set_option maxRecDepth 100000 in
theorem c_D_init_P (l : Launch) (D : va_G) (cA : Nat → ClassId) (h0 : Nat) (x1 : Int32) (x2 : Int32) : mC l y_D_init b_D_init 3 1 0 0 20 D vcl (tyl cA) XK [(h0, .inr (8, [.int 0, .int 0, .int 0, .int 0, .int 0, .int 0, .null, .int 0]))] [.ref h0, .int x1, .int x2] (w1_D_init_P cA h0 x1 x2) := by
  refine met_C (by decide) rfl (Nat.le_of_ble_eq_true rfl) (fun p e s m args below meth c A Q fx hi HR H ls hw hl => ?_)
  have hx := fx.1
  have hb := fx.2.1
  have hl : lv_has ls 3 [(0, .ref h0), (1, .int x1), (2, .int x2)] := hl
  refine lv_aload_n (pc := 0) hx hb d_D_init_0 rfl (lv_at hl 0 rfl) ?_
  refine cx_obj (pc := 1) fx kw_49 kw_32 kw_33 hl.1 d_D_init_1 (Nat.le_of_ble_eq_true rfl) (Nat.le_of_ble_eq_true rfl) (Nat.le_of_ble_eq_true rfl) ?_
  refine lv_aload_n (pc := 4) hx hb d_D_init_4 rfl (lv_at hl 0 rfl) ?_
  refine lv_iload_n (pc := 5) hx hb d_D_init_5 rfl (lv_at hl 1 rfl) ?_
  refine cx_fin (pc := 6) (C := RNP) (T := TTP) (N := 8) (ref := "NovaDesk$Device") (ty := .int) (wz := [(h0, .inr (8, [.int x1, .int 0, .int 0, .int 0, .int 0, .int 0, .null, .int 0]))]) 0 0 inwP tyP_ok nmP rfl rfl (by decide) (Nat.le_of_ble_eq_true rfl) rfl rfl (by decide +kernel) rfl (fun _ h => h) rfl rfl fx hi hw kw_54 d_D_init_6 (fun H locs hw => ?_)
  refine lv_aload_n (pc := 9) hx hb d_D_init_9 rfl (lv_at hl 0 rfl) ?_
  refine lv_iload_n (pc := 10) hx hb d_D_init_10 rfl (lv_at hl 2 rfl) ?_
  refine cx_fin (pc := 11) (C := RNP) (T := TTP) (N := 8) (ref := "NovaDesk$Device") (ty := .int) (wz := [(h0, .inr (8, [.int x1, .int x2, .int 0, .int 0, .int 0, .int 0, .null, .int 0]))]) 0 1 inwP tyP_ok nmP rfl rfl (by decide) (Nat.le_of_ble_eq_true rfl) rfl rfl (by decide +kernel) rfl (fun _ h => h) rfl rfl fx hi hw kw_55 d_D_init_11 (fun H locs hw => ?_)
  exact HR (fun k => ([] : List Nat).getD k 0) d_D_init_14 hw
def w1_P_init (cA : Nat → ClassId) (h0 : Nat) (q : Nat → Nat) : va_W := [(h0, .inr (8, [.int 1, .int 4, .int 0, .int 0, .int 0, .int 0, .ref (q 0), .int 0])), ((q 0), .inl (cA 4, 1000, .inl (fun _ => 0)))]
set_option maxHeartbeats 4000000 in
set_option maxRecDepth 100000 in
theorem c_P_init (l : Launch) (D : va_G) (cA : Nat → ClassId) (h0 : Nat) : mC l y_P_init b_P_init 1 2 1 1000 42 D vcl (tyl cA) XK [(h0, .inr (8, [.int 0, .int 0, .int 0, .int 0, .int 0, .int 0, .null, .int 0]))] [.ref h0] (w1_P_init cA h0) := by
  refine met_C (by decide) rfl (Nat.le_of_ble_eq_true rfl) (fun p e s m args below meth c A Q fx hi HR H ls hw hl => ?_)
  have hx := fx.1
  have hb := fx.2.1
  have hl : lv_has ls 1 [(0, .ref h0)] := hl
  refine lv_aload_n (pc := 0) hx hb d_P_init_0 rfl (lv_at hl 0 rfl) ?_
  refine lv_iconst (pc := 1) (v := 1) hx hb d_P_init_1 (by decide) ?_
  refine lv_iconst (pc := 2) (v := 4) hx hb d_P_init_2 (by decide) ?_
  refine cx_res (pc := 3) (u := []) (w0 := [(h0, .inr (8, [.int 0, .int 0, .int 0, .int 0, .int 0, .int 0, .null, .int 0]))]) (w1 := w1_D_init_P cA h0 1 4) hw (rnC (n := 2) (pc := 3) (u := []) (w0 := [(h0, .inr (8, [.int 0, .int 0, .int 0, .int 0, .int 0, .int 0, .null, .int 0]))]) xtK fx hw (c_D_init_P _ _ _ h0 1 4 _) kw_93 kw_47 kw_3 kw_48 rfl (by decide +kernel) rfl ⟨Nat.le_of_ble_eq_true rfl, Nat.le_of_ble_eq_true rfl⟩ hl.1 (Nat.le_of_ble_eq_true rfl) d_P_init_3 ⟨Nat.le_of_ble_eq_true rfl, Nat.le_of_ble_eq_true rfl⟩) (fun g3 H locs hw => ?_)
  refine lv_aload_n (pc := 6) hx hb d_P_init_6 rfl (lv_at hl 0 rfl) ?_
  refine lv_sipush (pc := 7) (v := 1000) hx hb d_P_init_7 (by decide) ?_
  refine cx_newa (pc := 10) (ty := .char) (N' := 1000) (a0 := (1000, .inl (fun _ => 0))) 4 rfl rfl (fun _ h => by cases h) (fun _ => rfl) (by decide) (by decide) (by decide) fx hw kw_87 (Nat.le_of_ble_eq_true rfl) (Nat.le_of_ble_eq_true rfl) d_P_init_10 (fun q1 H hw => ?_)
  refine cx_fin (pc := 12) (C := RNP) (T := TTP) (N := 8) (ref := "NovaDesk$Printer") (ty := (.array .char)) (wz := [(h0, .inr (8, [.int 1, .int 4, .int 0, .int 0, .int 0, .int 0, .ref q1, .int 0]))] ++ [(q1, .inl (cA 4, 1000, .inl (fun _ => 0)))]) 0 6 inwP tyP_ok nmP rfl rfl (by decide) (Nat.le_of_ble_eq_true rfl) rfl rfl (by decide +kernel) rfl (fun _ h => h) rfl rfl fx hi hw kw_94 d_P_init_12 (fun H locs hw => ?_)
  exact HR (fun k => ([q1] : List Nat).getD k 0) d_P_init_15 hw
def w1_D_init_K (cA : Nat → ClassId) (h0 : Nat) (x1 : Int32) (x2 : Int32) (q : Nat → Nat) : va_W := [(h0, .inr (9, [.int x1, .int x2, .int 0, .int 0, .int 0, .int 0]))]
set_option maxHeartbeats 4000000 in
set_option maxRecDepth 100000 in
theorem c_D_init_K (l : Launch) (D : va_G) (cA : Nat → ClassId) (h0 : Nat) (x1 : Int32) (x2 : Int32) : mC l y_D_init b_D_init 3 1 0 0 20 D vcl (tyl cA) XK [(h0, .inr (9, [.int 0, .int 0, .int 0, .int 0, .int 0, .int 0]))] [.ref h0, .int x1, .int x2] (w1_D_init_K cA h0 x1 x2) := by
  refine met_C (by decide) rfl (Nat.le_of_ble_eq_true rfl) (fun p e s m args below meth c A Q fx hi HR H ls hw hl => ?_)
  have hx := fx.1
  have hb := fx.2.1
  have hl : lv_has ls 3 [(0, .ref h0), (1, .int x1), (2, .int x2)] := hl
  refine lv_aload_n (pc := 0) hx hb d_D_init_0 rfl (lv_at hl 0 rfl) ?_
  refine cx_obj (pc := 1) fx kw_49 kw_32 kw_33 hl.1 d_D_init_1 (Nat.le_of_ble_eq_true rfl) (Nat.le_of_ble_eq_true rfl) (Nat.le_of_ble_eq_true rfl) ?_
  refine lv_aload_n (pc := 4) hx hb d_D_init_4 rfl (lv_at hl 0 rfl) ?_
  refine lv_iload_n (pc := 5) hx hb d_D_init_5 rfl (lv_at hl 1 rfl) ?_
  refine cx_fin (pc := 6) (C := RNK) (T := TTK) (N := 6) (ref := "NovaDesk$Device") (ty := .int) (wz := [(h0, .inr (9, [.int x1, .int 0, .int 0, .int 0, .int 0, .int 0]))]) 0 0 inwK tyK_ok nmK rfl rfl (by decide) (Nat.le_of_ble_eq_true rfl) rfl rfl (by decide +kernel) rfl (fun _ h => h) rfl rfl fx hi hw kw_54 d_D_init_6 (fun H locs hw => ?_)
  refine lv_aload_n (pc := 9) hx hb d_D_init_9 rfl (lv_at hl 0 rfl) ?_
  refine lv_iload_n (pc := 10) hx hb d_D_init_10 rfl (lv_at hl 2 rfl) ?_
  refine cx_fin (pc := 11) (C := RNK) (T := TTK) (N := 6) (ref := "NovaDesk$Device") (ty := .int) (wz := [(h0, .inr (9, [.int x1, .int x2, .int 0, .int 0, .int 0, .int 0]))]) 0 1 inwK tyK_ok nmK rfl rfl (by decide) (Nat.le_of_ble_eq_true rfl) rfl rfl (by decide +kernel) rfl (fun _ h => h) rfl rfl fx hi hw kw_55 d_D_init_11 (fun H locs hw => ?_)
  exact HR (fun k => ([] : List Nat).getD k 0) d_D_init_14 hw
def w1_K_init (cA : Nat → ClassId) (h0 : Nat) (q : Nat → Nat) : va_W := [(h0, .inr (9, [.int 4, .int 20, .int 0, .int 0, .int 0, .int 0]))]
set_option maxHeartbeats 4000000 in
set_option maxRecDepth 100000 in
theorem c_K_init (l : Launch) (D : va_G) (cA : Nat → ClassId) (h0 : Nat) : mC l y_K_init b_K_init 1 2 0 0 42 D vcl (tyl cA) XK [(h0, .inr (9, [.int 0, .int 0, .int 0, .int 0, .int 0, .int 0]))] [.ref h0] (w1_K_init cA h0) := by
  refine met_C (by decide) rfl (Nat.le_of_ble_eq_true rfl) (fun p e s m args below meth c A Q fx hi HR H ls hw hl => ?_)
  have hx := fx.1
  have hb := fx.2.1
  have hl : lv_has ls 1 [(0, .ref h0)] := hl
  refine lv_aload_n (pc := 0) hx hb d_K_init_0 rfl (lv_at hl 0 rfl) ?_
  refine lv_iconst (pc := 1) (v := 4) hx hb d_K_init_1 (by decide) ?_
  refine lv_bipush (pc := 2) (v := 20) hx hb d_K_init_2 (by decide) ?_
  refine cx_res (pc := 4) (u := []) (w0 := [(h0, .inr (9, [.int 0, .int 0, .int 0, .int 0, .int 0, .int 0]))]) (w1 := w1_D_init_K cA h0 4 20) hw (rnC (n := 2) (pc := 4) (u := []) (w0 := [(h0, .inr (9, [.int 0, .int 0, .int 0, .int 0, .int 0, .int 0]))]) xtK fx hw (c_D_init_K _ _ _ h0 4 20 _) kw_114 kw_47 kw_3 kw_48 rfl (by decide +kernel) rfl ⟨Nat.le_of_ble_eq_true rfl, Nat.le_of_ble_eq_true rfl⟩ hl.1 (Nat.le_of_ble_eq_true rfl) d_K_init_4 ⟨Nat.le_of_ble_eq_true rfl, Nat.le_of_ble_eq_true rfl⟩) (fun g4 H locs hw => ?_)
  exact HR (fun k => ([] : List Nat).getD k 0) d_K_init_7 hw
def w1_M_init (cA : Nat → ClassId) (h0 : Nat) (q : Nat → Nat) : va_W := [(h0, .inr (2, [.ref (q 0), .ref (q 1), .ref (q 2), .ref (q 4), .ref (q 6), .int 0, .int 0, .int 0, .int 0, .int 0, .int 0, .int 0, .int 0, .int 0])), ((q 0), .inl (cA 0, 32768, .inl (fun _ => 0))), ((q 1), .inl (cA 0, 4, .inl (fun _ => 0))), ((q 2), .inr (7, [.int 2, .int 4, .int 0, .int 0, .int 0, .int 0, .ref (q 3), .int 0, .int 0])), ((q 3), .inl (cA 4, 500, .inl (fun _ => 0))), ((q 4), .inr (8, [.int 1, .int 4, .int 0, .int 0, .int 0, .int 0, .ref (q 5), .int 0])), ((q 5), .inl (cA 4, 1000, .inl (fun _ => 0))), ((q 6), .inl (cA 5, 3, .inr (.inr (.inr (.inr (va_up (va_up (va_up (fun _ => none) (0 : Int32).toNatClampNeg (some (q 2))) (1 : Int32).toNatClampNeg (some (q 4))) (2 : Int32).toNatClampNeg (some (q 7)))))))), ((q 7), .inr (9, [.int 4, .int 20, .int 0, .int 0, .int 0, .int 0]))]
set_option maxHeartbeats 4000000 in
set_option maxRecDepth 100000 in
theorem c_M_init (l : Launch) (D : va_G) (cA : Nat → ClassId) (h0 : Nat) : mC l y_M_init b_M_init 1 3 8 34298 62 D vcl (tyl cA) XK [(h0, .inr (2, [.null, .null, .null, .null, .null, .int 0, .int 0, .int 0, .int 0, .int 0, .int 0, .int 0, .int 0, .int 0]))] [.ref h0] (w1_M_init cA h0) := by
  refine met_C (by decide) rfl (Nat.le_of_ble_eq_true rfl) (fun p e s m args below meth c A Q fx hi HR H ls hw hl => ?_)
  have hx := fx.1
  have hb := fx.2.1
  have hl : lv_has ls 1 [(0, .ref h0)] := hl
  refine lv_aload_n (pc := 0) hx hb d_M_init_0 rfl (lv_at hl 0 rfl) ?_
  refine cx_obj (pc := 1) fx kw_39 kw_32 kw_33 hl.1 d_M_init_1 (Nat.le_of_ble_eq_true rfl) (Nat.le_of_ble_eq_true rfl) (Nat.le_of_ble_eq_true rfl) ?_
  refine lv_aload_n (pc := 4) hx hb d_M_init_4 rfl (lv_at hl 0 rfl) ?_
  refine lv_ldc (pc := 5) (v := 32768) hx hb fx.2.2.2.1 (fx.2.2.2.2 _ kw_40) d_M_init_5 ?_
  refine cx_newa (pc := 7) (ty := .int) (N' := 32768) (a0 := (32768, .inl (fun _ => 0))) 0 rfl rfl (fun _ h => by cases h) (fun _ => rfl) (by decide) (by decide) (by decide) fx hw kw_86 (Nat.le_of_ble_eq_true rfl) (Nat.le_of_ble_eq_true rfl) d_M_init_7 (fun q1 H hw => ?_)
  refine cx_fin (pc := 9) (C := RNM) (T := TTM) (N := 14) (ref := "NovaDesk$Machine") (ty := (.array .int)) (wz := [(h0, .inr (2, [.ref q1, .null, .null, .null, .null, .int 0, .int 0, .int 0, .int 0, .int 0, .int 0, .int 0, .int 0, .int 0]))] ++ [(q1, .inl (cA 0, 32768, .inl (fun _ => 0)))]) 0 0 inwM tyM_ok nmM rfl rfl (by decide) (Nat.le_of_ble_eq_true rfl) rfl rfl (by decide +kernel) rfl (fun _ h => h) rfl rfl fx hi hw kw_122 d_M_init_9 (fun H locs hw => ?_)
  refine lv_aload_n (pc := 12) hx hb d_M_init_12 rfl (lv_at hl 0 rfl) ?_
  refine lv_iconst (pc := 13) (v := 4) hx hb d_M_init_13 (by decide) ?_
  refine cx_newa (pc := 14) (ty := .int) (N' := 4) (a0 := (4, .inl (fun _ => 0))) 0 rfl rfl (fun _ h => by cases h) (fun _ => rfl) (by decide) (by decide) (by decide) fx hw kw_86 (Nat.le_of_ble_eq_true rfl) (Nat.le_of_ble_eq_true rfl) d_M_init_14 (fun q2 H hw => ?_)
  refine cx_fin (pc := 16) (C := RNM) (T := TTM) (N := 14) (ref := "NovaDesk$Machine") (ty := (.array .int)) (wz := [(h0, .inr (2, [.ref q1, .ref q2, .null, .null, .null, .int 0, .int 0, .int 0, .int 0, .int 0, .int 0, .int 0, .int 0, .int 0]))] ++ [(q1, .inl (cA 0, 32768, .inl (fun _ => 0)))] ++ [(q2, .inl (cA 0, 4, .inl (fun _ => 0)))]) 0 1 inwM tyM_ok nmM rfl rfl (by decide) (Nat.le_of_ble_eq_true rfl) rfl rfl (by decide +kernel) rfl (fun _ h => h) rfl rfl fx hi hw kw_123 d_M_init_16 (fun H locs hw => ?_)
  refine lv_aload_n (pc := 19) hx hb d_M_init_19 rfl (lv_at hl 0 rfl) ?_
  refine cx_newo (pc := 20) (C := RNE) (T := TTE) (N := 9) (ci := 7) (fs := [.int 0, .int 0, .int 0, .int 0, .int 0, .int 0, .null, .int 0, .int 0]) inwE tyE_ok fx hw kw_41 kw_42 kw_4 rfl (by decide) (Nat.le_of_ble_eq_true rfl) (Nat.le_of_ble_eq_true rfl) d_M_init_20 (fun q3 H hw => ?_)
  refine lv_dup (pc := 23) hx hb d_M_init_23 rfl ?_
  refine cx_res (pc := 24) (u := [(h0, .inr (2, [.ref q1, .ref q2, .null, .null, .null, .int 0, .int 0, .int 0, .int 0, .int 0, .int 0, .int 0, .int 0, .int 0]))] ++ [(q1, .inl (cA 0, 32768, .inl (fun _ => 0)))] ++ [(q2, .inl (cA 0, 4, .inl (fun _ => 0)))]) (w0 := [(q3, .inr (7, [.int 0, .int 0, .int 0, .int 0, .int 0, .int 0, .null, .int 0, .int 0]))]) (w1 := w1_E_init cA q3) hw (rnC (n := 0) (pc := 24) (u := [(h0, .inr (2, [.ref q1, .ref q2, .null, .null, .null, .int 0, .int 0, .int 0, .int 0, .int 0, .int 0, .int 0, .int 0, .int 0]))] ++ [(q1, .inl (cA 0, 32768, .inl (fun _ => 0)))] ++ [(q2, .inl (cA 0, 4, .inl (fun _ => 0)))]) (w0 := [(q3, .inr (7, [.int 0, .int 0, .int 0, .int 0, .int 0, .int 0, .null, .int 0, .int 0]))]) xtK fx hw (c_E_init _ _ _ q3 _) kw_43 kw_44 kw_4 kw_45 rfl (by decide +kernel) rfl ⟨Nat.le_of_ble_eq_true rfl, Nat.le_of_ble_eq_true rfl⟩ hl.1 (Nat.le_of_ble_eq_true rfl) d_M_init_24 ⟨Nat.le_of_ble_eq_true rfl, Nat.le_of_ble_eq_true rfl⟩) (fun g24 H locs hw => ?_)
  refine cx_fin (pc := 27) (C := RNM) (T := TTM) (N := 14) (ref := "NovaDesk$Machine") (ty := (.object "NovaDesk$Reader")) (wz := [(h0, .inr (2, [.ref q1, .ref q2, .ref q3, .null, .null, .int 0, .int 0, .int 0, .int 0, .int 0, .int 0, .int 0, .int 0, .int 0]))] ++ [(q1, .inl (cA 0, 32768, .inl (fun _ => 0)))] ++ [(q2, .inl (cA 0, 4, .inl (fun _ => 0)))] ++ w1_E_init cA q3 g24) 0 2 inwM tyM_ok nmM rfl rfl (by decide) (Nat.le_of_ble_eq_true rfl) rfl rfl (by decide +kernel) rfl (fun _ h => h) rfl rfl fx hi hw kw_124 d_M_init_27 (fun H locs hw => ?_)
  refine lv_aload_n (pc := 30) hx hb d_M_init_30 rfl (lv_at hl 0 rfl) ?_
  refine cx_newo (pc := 31) (C := RNP) (T := TTP) (N := 8) (ci := 8) (fs := [.int 0, .int 0, .int 0, .int 0, .int 0, .int 0, .null, .int 0]) inwP tyP_ok fx hw kw_88 kw_89 kw_5 rfl (by decide) (Nat.le_of_ble_eq_true rfl) (Nat.le_of_ble_eq_true rfl) d_M_init_31 (fun q4 H hw => ?_)
  refine lv_dup (pc := 34) hx hb d_M_init_34 rfl ?_
  refine cx_res (pc := 35) (u := [(h0, .inr (2, [.ref q1, .ref q2, .ref q3, .null, .null, .int 0, .int 0, .int 0, .int 0, .int 0, .int 0, .int 0, .int 0, .int 0]))] ++ [(q1, .inl (cA 0, 32768, .inl (fun _ => 0)))] ++ [(q2, .inl (cA 0, 4, .inl (fun _ => 0)))] ++ w1_E_init cA q3 g24) (w0 := [(q4, .inr (8, [.int 0, .int 0, .int 0, .int 0, .int 0, .int 0, .null, .int 0]))]) (w1 := w1_P_init cA q4) hw (rnC (n := 0) (pc := 35) (u := [(h0, .inr (2, [.ref q1, .ref q2, .ref q3, .null, .null, .int 0, .int 0, .int 0, .int 0, .int 0, .int 0, .int 0, .int 0, .int 0]))] ++ [(q1, .inl (cA 0, 32768, .inl (fun _ => 0)))] ++ [(q2, .inl (cA 0, 4, .inl (fun _ => 0)))] ++ w1_E_init cA q3 g24) (w0 := [(q4, .inr (8, [.int 0, .int 0, .int 0, .int 0, .int 0, .int 0, .null, .int 0]))]) xtK fx hw (c_P_init _ _ _ q4 _) kw_90 kw_91 kw_5 kw_92 rfl (by decide +kernel) rfl ⟨Nat.le_of_ble_eq_true rfl, Nat.le_of_ble_eq_true rfl⟩ hl.1 (Nat.le_of_ble_eq_true rfl) d_M_init_35 ⟨Nat.le_of_ble_eq_true rfl, Nat.le_of_ble_eq_true rfl⟩) (fun g35 H locs hw => ?_)
  refine cx_fin (pc := 38) (C := RNM) (T := TTM) (N := 14) (ref := "NovaDesk$Machine") (ty := (.object "NovaDesk$Printer")) (wz := [(h0, .inr (2, [.ref q1, .ref q2, .ref q3, .ref q4, .null, .int 0, .int 0, .int 0, .int 0, .int 0, .int 0, .int 0, .int 0, .int 0]))] ++ [(q1, .inl (cA 0, 32768, .inl (fun _ => 0)))] ++ [(q2, .inl (cA 0, 4, .inl (fun _ => 0)))] ++ w1_E_init cA q3 g24 ++ w1_P_init cA q4 g35) 0 3 inwM tyM_ok nmM rfl rfl (by decide) (Nat.le_of_ble_eq_true rfl) rfl rfl (by decide +kernel) rfl (fun _ h => h) rfl rfl fx hi hw kw_126 d_M_init_38 (fun H locs hw => ?_)
  refine lv_aload_n (pc := 41) hx hb d_M_init_41 rfl (lv_at hl 0 rfl) ?_
  refine lv_iconst (pc := 42) (v := 3) hx hb d_M_init_42 (by decide) ?_
  refine cx_newr (pc := 43) (C := "NovaDesk$Device") (N' := 3) 5 rfl (hw.2.2.2.2.2.2.2.2.2.2.2.2.2) (by decide) (by decide) (by decide) fx hw kw_107 (Nat.le_of_ble_eq_true rfl) (Nat.le_of_ble_eq_true rfl) d_M_init_43 (fun q5 H hw => ?_)
  refine lv_dup (pc := 46) hx hb d_M_init_46 rfl ?_
  refine lv_iconst (pc := 47) (v := 0) hx hb d_M_init_47 (by decide) ?_
  refine lv_aload_n (pc := 48) hx hb d_M_init_48 rfl (lv_at hl 0 rfl) ?_
  refine cx_get (pc := 49) (C := RNM) (T := TTM) (N := 14) (ref := "NovaDesk$Machine") (v := .ref q3) 0 2 inwM rfl rfl (by decide) rfl (fun _ h => h) fx hw kw_124 d_M_init_49 ?_
  refine cx_ast (pc := 52) (E := "NovaDesk$Device") (r := (RNE, TTE, 9)) (wz := [(h0, .inr (2, [.ref q1, .ref q2, .ref q3, .ref q4, .null, .int 0, .int 0, .int 0, .int 0, .int 0, .int 0, .int 0, .int 0, .int 0]))] ++ [(q1, .inl (cA 0, 32768, .inl (fun _ => 0)))] ++ [(q2, .inl (cA 0, 4, .inl (fun _ => 0)))] ++ w1_E_init cA q3 g24 ++ w1_P_init cA q4 g35 ++ [(q5, .inl (cA 5, 3, .inr (.inr (.inr (.inr (va_up (fun _ => none) (0 : Int32).toNatClampNeg (some q3)))))))]) 7 5 3 rfl rfl (hw.2.2.2.2.2.2.2.2.2.2.1) rfl rfl (by unfold vp_in; decide) rfl fx hw d_M_init_52 (fun H locs hw => ?_)
  refine lv_dup (pc := 53) hx hb d_M_init_53 rfl ?_
  refine lv_iconst (pc := 54) (v := 1) hx hb d_M_init_54 (by decide) ?_
  refine lv_aload_n (pc := 55) hx hb d_M_init_55 rfl (lv_at hl 0 rfl) ?_
  refine cx_get (pc := 56) (C := RNM) (T := TTM) (N := 14) (ref := "NovaDesk$Machine") (v := .ref q4) 0 3 inwM rfl rfl (by decide) rfl (fun _ h => h) fx hw kw_126 d_M_init_56 ?_
  refine cx_ast (pc := 59) (E := "NovaDesk$Device") (r := (RNP, TTP, 8)) (wz := [(h0, .inr (2, [.ref q1, .ref q2, .ref q3, .ref q4, .null, .int 0, .int 0, .int 0, .int 0, .int 0, .int 0, .int 0, .int 0, .int 0]))] ++ [(q1, .inl (cA 0, 32768, .inl (fun _ => 0)))] ++ [(q2, .inl (cA 0, 4, .inl (fun _ => 0)))] ++ w1_E_init cA q3 g24 ++ w1_P_init cA q4 g35 ++ [(q5, .inl (cA 5, 3, .inr (.inr (.inr (.inr (va_up (va_up (fun _ => none) (0 : Int32).toNatClampNeg (some q3)) (1 : Int32).toNatClampNeg (some q4)))))))]) 7 5 5 rfl rfl (hw.2.2.2.2.2.2.2.2.2.2.2.1) rfl rfl (by unfold vp_in; decide) rfl fx hw d_M_init_59 (fun H locs hw => ?_)
  refine lv_dup (pc := 60) hx hb d_M_init_60 rfl ?_
  refine lv_iconst (pc := 61) (v := 2) hx hb d_M_init_61 (by decide) ?_
  refine cx_newo (pc := 62) (C := RNK) (T := TTK) (N := 6) (ci := 9) (fs := [.int 0, .int 0, .int 0, .int 0, .int 0, .int 0]) inwK tyK_ok fx hw kw_109 kw_110 kw_6 rfl (by decide) (Nat.le_of_ble_eq_true rfl) (Nat.le_of_ble_eq_true rfl) d_M_init_62 (fun q6 H hw => ?_)
  refine lv_dup (pc := 65) hx hb d_M_init_65 rfl ?_
  refine cx_res (pc := 66) (u := [(h0, .inr (2, [.ref q1, .ref q2, .ref q3, .ref q4, .null, .int 0, .int 0, .int 0, .int 0, .int 0, .int 0, .int 0, .int 0, .int 0]))] ++ [(q1, .inl (cA 0, 32768, .inl (fun _ => 0)))] ++ [(q2, .inl (cA 0, 4, .inl (fun _ => 0)))] ++ w1_E_init cA q3 g24 ++ w1_P_init cA q4 g35 ++ [(q5, .inl (cA 5, 3, .inr (.inr (.inr (.inr (va_up (va_up (fun _ => none) (0 : Int32).toNatClampNeg (some q3)) (1 : Int32).toNatClampNeg (some q4)))))))]) (w0 := [(q6, .inr (9, [.int 0, .int 0, .int 0, .int 0, .int 0, .int 0]))]) (w1 := w1_K_init cA q6) hw (rnC (n := 0) (pc := 66) (u := [(h0, .inr (2, [.ref q1, .ref q2, .ref q3, .ref q4, .null, .int 0, .int 0, .int 0, .int 0, .int 0, .int 0, .int 0, .int 0, .int 0]))] ++ [(q1, .inl (cA 0, 32768, .inl (fun _ => 0)))] ++ [(q2, .inl (cA 0, 4, .inl (fun _ => 0)))] ++ w1_E_init cA q3 g24 ++ w1_P_init cA q4 g35 ++ [(q5, .inl (cA 5, 3, .inr (.inr (.inr (.inr (va_up (va_up (fun _ => none) (0 : Int32).toNatClampNeg (some q3)) (1 : Int32).toNatClampNeg (some q4)))))))]) (w0 := [(q6, .inr (9, [.int 0, .int 0, .int 0, .int 0, .int 0, .int 0]))]) xtK fx hw (c_K_init _ _ _ q6 _) kw_111 kw_112 kw_6 kw_113 rfl (by decide +kernel) rfl ⟨Nat.le_of_ble_eq_true rfl, Nat.le_of_ble_eq_true rfl⟩ hl.1 (Nat.le_of_ble_eq_true rfl) d_M_init_66 ⟨Nat.le_of_ble_eq_true rfl, Nat.le_of_ble_eq_true rfl⟩) (fun g66 H locs hw => ?_)
  refine cx_ast (pc := 69) (E := "NovaDesk$Device") (r := (RNK, TTK, 6)) (wz := [(h0, .inr (2, [.ref q1, .ref q2, .ref q3, .ref q4, .null, .int 0, .int 0, .int 0, .int 0, .int 0, .int 0, .int 0, .int 0, .int 0]))] ++ [(q1, .inl (cA 0, 32768, .inl (fun _ => 0)))] ++ [(q2, .inl (cA 0, 4, .inl (fun _ => 0)))] ++ w1_E_init cA q3 g24 ++ w1_P_init cA q4 g35 ++ [(q5, .inl (cA 5, 3, .inr (.inr (.inr (.inr (va_up (va_up (va_up (fun _ => none) (0 : Int32).toNatClampNeg (some q3)) (1 : Int32).toNatClampNeg (some q4)) (2 : Int32).toNatClampNeg (some q6)))))))] ++ w1_K_init cA q6 g66) 7 5 8 rfl rfl (hw.2.2.2.2.2.2.2.2.2.2.2.2.1) rfl rfl (by unfold vp_in; decide) rfl fx hw d_M_init_69 (fun H locs hw => ?_)
  refine cx_fin (pc := 70) (C := RNM) (T := TTM) (N := 14) (ref := "NovaDesk$Machine") (ty := (.array (.object "NovaDesk$Device"))) (wz := [(h0, .inr (2, [.ref q1, .ref q2, .ref q3, .ref q4, .ref q5, .int 0, .int 0, .int 0, .int 0, .int 0, .int 0, .int 0, .int 0, .int 0]))] ++ [(q1, .inl (cA 0, 32768, .inl (fun _ => 0)))] ++ [(q2, .inl (cA 0, 4, .inl (fun _ => 0)))] ++ w1_E_init cA q3 g24 ++ w1_P_init cA q4 g35 ++ [(q5, .inl (cA 5, 3, .inr (.inr (.inr (.inr (va_up (va_up (va_up (fun _ => none) (0 : Int32).toNatClampNeg (some q3)) (1 : Int32).toNatClampNeg (some q4)) (2 : Int32).toNatClampNeg (some q6)))))))] ++ w1_K_init cA q6 g66) 0 4 inwM tyM_ok nmM rfl rfl (by decide) (Nat.le_of_ble_eq_true rfl) rfl rfl (by decide +kernel) rfl (fun _ h => h) rfl rfl fx hi hw kw_128 d_M_init_70 (fun H locs hw => ?_)
  exact HR (fun k => ([q1, q2, q3, (g24 0), q4, (g35 0), q5, q6] : List Nat).getD k 0) d_M_init_73 hw
def w1_I_init (cA : Nat → ClassId) (h0 : Nat) (q : Nat → Nat) : va_W := [(h0, .inr (4, [.ref (q 0), .int 0, .ref (q 1), .int 0, .int 0])), ((q 0), .inl (cA 4, 6000, .inl (fun _ => 0))), ((q 1), .inl (cA 1, 6001, .inr (.inl (fun _ => 0))))]
set_option maxHeartbeats 4000000 in
set_option maxRecDepth 100000 in
theorem c_I_init (l : Launch) (D : va_G) (cA : Nat → ClassId) (h0 : Nat) : mC l y_I_init b_I_init 1 1 2 12001 20 D vcl (tyl cA) XK [(h0, .inr (4, [.null, .int 0, .null, .int 0, .int 0]))] [.ref h0] (w1_I_init cA h0) := by
  refine met_C (by decide) rfl (Nat.le_of_ble_eq_true rfl) (fun p e s m args below meth c A Q fx hi HR H ls hw hl => ?_)
  have hx := fx.1
  have hb := fx.2.1
  have hl : lv_has ls 1 [(0, .ref h0)] := hl
  refine lv_aload_n (pc := 0) hx hb d_I_init_0 rfl (lv_at hl 0 rfl) ?_
  refine cx_obj (pc := 1) fx kw_179 kw_32 kw_33 hl.1 d_I_init_1 (Nat.le_of_ble_eq_true rfl) (Nat.le_of_ble_eq_true rfl) (Nat.le_of_ble_eq_true rfl) ?_
  refine lv_aload_n (pc := 4) hx hb d_I_init_4 rfl (lv_at hl 0 rfl) ?_
  refine lv_sipush (pc := 5) (v := 6000) hx hb d_I_init_5 (by decide) ?_
  refine cx_newa (pc := 8) (ty := .char) (N' := 6000) (a0 := (6000, .inl (fun _ => 0))) 4 rfl rfl (fun _ h => by cases h) (fun _ => rfl) (by decide) (by decide) (by decide) fx hw kw_87 (Nat.le_of_ble_eq_true rfl) (Nat.le_of_ble_eq_true rfl) d_I_init_8 (fun q1 H hw => ?_)
  refine cx_fin (pc := 10) (C := RNI) (T := TTI) (N := 5) (ref := "NovaDesk$Items") (ty := (.array .char)) (wz := [(h0, .inr (4, [.ref q1, .int 0, .null, .int 0, .int 0]))] ++ [(q1, .inl (cA 4, 6000, .inl (fun _ => 0)))]) 0 0 inwI tyI_ok nmI rfl rfl (by decide) (Nat.le_of_ble_eq_true rfl) rfl rfl (by decide +kernel) rfl (fun _ h => h) rfl rfl fx hi hw kw_180 d_I_init_10 (fun H locs hw => ?_)
  refine lv_aload_n (pc := 13) hx hb d_I_init_13 rfl (lv_at hl 0 rfl) ?_
  refine lv_sipush (pc := 14) (v := 6001) hx hb d_I_init_14 (by decide) ?_
  refine cx_newa (pc := 17) (ty := .long) (N' := 6001) (a0 := (6001, .inr (.inl (fun _ => 0)))) 1 rfl rfl (fun _ h => by cases h) (fun _ => rfl) (by decide) (by decide) (by decide) fx hw kw_199 (Nat.le_of_ble_eq_true rfl) (Nat.le_of_ble_eq_true rfl) d_I_init_17 (fun q2 H hw => ?_)
  refine cx_fin (pc := 19) (C := RNI) (T := TTI) (N := 5) (ref := "NovaDesk$Items") (ty := (.array .long)) (wz := [(h0, .inr (4, [.ref q1, .int 0, .ref q2, .int 0, .int 0]))] ++ [(q1, .inl (cA 4, 6000, .inl (fun _ => 0)))] ++ [(q2, .inl (cA 1, 6001, .inr (.inl (fun _ => 0))))]) 0 2 inwI tyI_ok nmI rfl rfl (by decide) (Nat.le_of_ble_eq_true rfl) rfl rfl (by decide +kernel) rfl (fun _ h => h) rfl rfl fx hi hw kw_184 d_I_init_19 (fun H locs hw => ?_)
  exact HR (fun k => ([q1, q2] : List Nat).getD k 0) d_I_init_22 hw
def w1_L_init (cA : Nat → ClassId) (h0 : Nat) (q : Nat → Nat) : va_W := [(h0, .inr (5, [.ref (q 0), .ref (q 1), .int 0])), ((q 0), .inl (cA 1, 200, .inr (.inl (fun _ => 0)))), ((q 1), .inl (cA 0, 200, .inl (fun _ => 0)))]
set_option maxHeartbeats 4000000 in
set_option maxRecDepth 100000 in
theorem c_L_init (l : Launch) (D : va_G) (cA : Nat → ClassId) (h0 : Nat) : mC l y_L_init b_L_init 1 1 2 400 20 D vcl (tyl cA) XK [(h0, .inr (5, [.null, .null, .int 0]))] [.ref h0] (w1_L_init cA h0) := by
  refine met_C (by decide) rfl (Nat.le_of_ble_eq_true rfl) (fun p e s m args below meth c A Q fx hi HR H ls hw hl => ?_)
  have hx := fx.1
  have hb := fx.2.1
  have hl : lv_has ls 1 [(0, .ref h0)] := hl
  refine lv_aload_n (pc := 0) hx hb d_L_init_0 rfl (lv_at hl 0 rfl) ?_
  refine cx_obj (pc := 1) fx kw_205 kw_32 kw_33 hl.1 d_L_init_1 (Nat.le_of_ble_eq_true rfl) (Nat.le_of_ble_eq_true rfl) (Nat.le_of_ble_eq_true rfl) ?_
  refine lv_aload_n (pc := 4) hx hb d_L_init_4 rfl (lv_at hl 0 rfl) ?_
  refine lv_sipush (pc := 5) (v := 200) hx hb d_L_init_5 (by decide) ?_
  refine cx_newa (pc := 8) (ty := .long) (N' := 200) (a0 := (200, .inr (.inl (fun _ => 0)))) 1 rfl rfl (fun _ h => by cases h) (fun _ => rfl) (by decide) (by decide) (by decide) fx hw kw_199 (Nat.le_of_ble_eq_true rfl) (Nat.le_of_ble_eq_true rfl) d_L_init_8 (fun q1 H hw => ?_)
  refine cx_fin (pc := 10) (C := RNL) (T := TTL) (N := 3) (ref := "NovaDesk$Labels") (ty := (.array .long)) (wz := [(h0, .inr (5, [.ref q1, .null, .int 0]))] ++ [(q1, .inl (cA 1, 200, .inr (.inl (fun _ => 0))))]) 0 0 inwL tyL_ok nmL rfl rfl (by decide) (Nat.le_of_ble_eq_true rfl) rfl rfl (by decide +kernel) rfl (fun _ h => h) rfl rfl fx hi hw kw_206 d_L_init_10 (fun H locs hw => ?_)
  refine lv_aload_n (pc := 13) hx hb d_L_init_13 rfl (lv_at hl 0 rfl) ?_
  refine lv_sipush (pc := 14) (v := 200) hx hb d_L_init_14 (by decide) ?_
  refine cx_newa (pc := 17) (ty := .int) (N' := 200) (a0 := (200, .inl (fun _ => 0))) 0 rfl rfl (fun _ h => by cases h) (fun _ => rfl) (by decide) (by decide) (by decide) fx hw kw_86 (Nat.le_of_ble_eq_true rfl) (Nat.le_of_ble_eq_true rfl) d_L_init_17 (fun q2 H hw => ?_)
  refine cx_fin (pc := 19) (C := RNL) (T := TTL) (N := 3) (ref := "NovaDesk$Labels") (ty := (.array .int)) (wz := [(h0, .inr (5, [.ref q1, .ref q2, .int 0]))] ++ [(q1, .inl (cA 1, 200, .inr (.inl (fun _ => 0))))] ++ [(q2, .inl (cA 0, 200, .inl (fun _ => 0)))]) 0 1 inwL tyL_ok nmL rfl rfl (by decide) (Nat.le_of_ble_eq_true rfl) rfl rfl (by decide +kernel) rfl (fun _ h => h) rfl rfl fx hi hw kw_207 d_L_init_19 (fun H locs hw => ?_)
  exact HR (fun k => ([q1, q2] : List Nat).getD k 0) d_L_init_22 hw
def w1_A_init (cA : Nat → ClassId) (h0 : Nat) (q : Nat → Nat) : va_W := [(h0, .inr (3, [.ref (q 0), .ref (q 3), .ref (q 6), .ref (q 9), .ref (q 10), .int 0, .ref (q 11), .int 0, .int 0, .int 0, .int 0, .int 0, .int 0, .int 0])), ((q 0), .inr (4, [.ref (q 1), .int 0, .ref (q 2), .int 0, .int 0])), ((q 1), .inl (cA 4, 6000, .inl (fun _ => 0))), ((q 2), .inl (cA 1, 6001, .inr (.inl (fun _ => 0)))), ((q 3), .inr (5, [.ref (q 4), .ref (q 5), .int 0])), ((q 4), .inl (cA 1, 200, .inr (.inl (fun _ => 0)))), ((q 5), .inl (cA 0, 200, .inl (fun _ => 0))), ((q 6), .inr (5, [.ref (q 7), .ref (q 8), .int 0])), ((q 7), .inl (cA 1, 200, .inr (.inl (fun _ => 0)))), ((q 8), .inl (cA 0, 200, .inl (fun _ => 0))), ((q 9), .inl (cA 0, 3000, .inl (fun _ => 0))), ((q 10), .inl (cA 0, 3000, .inl (fun _ => 0))), ((q 11), .inl (cA 0, 3, .inl (fun _ => 0)))]
set_option maxHeartbeats 4000000 in
set_option maxRecDepth 100000 in
theorem c_A_init (l : Launch) (D : va_G) (cA : Nat → ClassId) (h0 : Nat) : mC l y_A_init b_A_init 1 2 12 18815 40 D vcl (tyl cA) XK [(h0, .inr (3, [.null, .null, .null, .null, .null, .int 0, .null, .int 0, .int 0, .int 0, .int 0, .int 0, .int 0, .int 0]))] [.ref h0] (w1_A_init cA h0) := by
  refine met_C (by decide) rfl (Nat.le_of_ble_eq_true rfl) (fun p e s m args below meth c A Q fx hi HR H ls hw hl => ?_)
  have hx := fx.1
  have hb := fx.2.1
  have hl : lv_has ls 1 [(0, .ref h0)] := hl
  refine lv_aload_n (pc := 0) hx hb d_A_init_0 rfl (lv_at hl 0 rfl) ?_
  refine cx_obj (pc := 1) fx kw_173 kw_32 kw_33 hl.1 d_A_init_1 (Nat.le_of_ble_eq_true rfl) (Nat.le_of_ble_eq_true rfl) (Nat.le_of_ble_eq_true rfl) ?_
  refine lv_aload_n (pc := 4) hx hb d_A_init_4 rfl (lv_at hl 0 rfl) ?_
  refine cx_newo (pc := 5) (C := RNI) (T := TTI) (N := 5) (ci := 4) (fs := [.null, .int 0, .null, .int 0, .int 0]) inwI tyI_ok fx hw kw_174 kw_175 kw_8 rfl (by decide) (Nat.le_of_ble_eq_true rfl) (Nat.le_of_ble_eq_true rfl) d_A_init_5 (fun q1 H hw => ?_)
  refine lv_dup (pc := 8) hx hb d_A_init_8 rfl ?_
  refine cx_res (pc := 9) (u := [(h0, .inr (3, [.null, .null, .null, .null, .null, .int 0, .null, .int 0, .int 0, .int 0, .int 0, .int 0, .int 0, .int 0]))]) (w0 := [(q1, .inr (4, [.null, .int 0, .null, .int 0, .int 0]))]) (w1 := w1_I_init cA q1) hw (rnCN (n := 0) (pc := 9) (u := [(h0, .inr (3, [.null, .null, .null, .null, .null, .int 0, .null, .int 0, .int 0, .int 0, .int 0, .int 0, .int 0, .int 0]))]) (w0 := [(q1, .inr (4, [.null, .int 0, .null, .int 0, .int 0]))]) xtK fx hw (c_I_init _ _ _ q1 _) (hw.2.2.2.2.2.2.2.2.1) kw_177 kw_8 kw_178 rfl (by decide +kernel) rfl ⟨Nat.le_of_ble_eq_true rfl, Nat.le_of_ble_eq_true rfl⟩ hl.1 (Nat.le_of_ble_eq_true rfl) d_A_init_9 ⟨Nat.le_of_ble_eq_true rfl, Nat.le_of_ble_eq_true rfl⟩) (fun g9 H locs hw => ?_)
  refine cx_fin (pc := 12) (C := RNA) (T := TTA) (N := 14) (ref := "NovaDesk$Assembler") (ty := (.object "NovaDesk$Items")) (wz := [(h0, .inr (3, [.ref q1, .null, .null, .null, .null, .int 0, .null, .int 0, .int 0, .int 0, .int 0, .int 0, .int 0, .int 0]))] ++ w1_I_init cA q1 g9) 0 0 inwA tyA_ok nmA rfl rfl (by decide) (Nat.le_of_ble_eq_true rfl) rfl rfl (by decide +kernel) rfl (fun _ h => h) rfl rfl fx hi hw kw_216 d_A_init_12 (fun H locs hw => ?_)
  refine lv_aload_n (pc := 15) hx hb d_A_init_15 rfl (lv_at hl 0 rfl) ?_
  refine cx_newo (pc := 16) (C := RNL) (T := TTL) (N := 3) (ci := 5) (fs := [.null, .null, .int 0]) inwL tyL_ok fx hw kw_200 kw_201 kw_9 rfl (by decide) (Nat.le_of_ble_eq_true rfl) (Nat.le_of_ble_eq_true rfl) d_A_init_16 (fun q2 H hw => ?_)
  refine lv_dup (pc := 19) hx hb d_A_init_19 rfl ?_
  refine cx_res (pc := 20) (u := [(h0, .inr (3, [.ref q1, .null, .null, .null, .null, .int 0, .null, .int 0, .int 0, .int 0, .int 0, .int 0, .int 0, .int 0]))] ++ w1_I_init cA q1 g9) (w0 := [(q2, .inr (5, [.null, .null, .int 0]))]) (w1 := w1_L_init cA q2) hw (rnCN (n := 0) (pc := 20) (u := [(h0, .inr (3, [.ref q1, .null, .null, .null, .null, .int 0, .null, .int 0, .int 0, .int 0, .int 0, .int 0, .int 0, .int 0]))] ++ w1_I_init cA q1 g9) (w0 := [(q2, .inr (5, [.null, .null, .int 0]))]) xtK fx hw (c_L_init _ _ _ q2 _) (hw.2.2.2.2.2.2.2.2.2.1) kw_203 kw_9 kw_204 rfl (by decide +kernel) rfl ⟨Nat.le_of_ble_eq_true rfl, Nat.le_of_ble_eq_true rfl⟩ hl.1 (Nat.le_of_ble_eq_true rfl) d_A_init_20 ⟨Nat.le_of_ble_eq_true rfl, Nat.le_of_ble_eq_true rfl⟩) (fun g20 H locs hw => ?_)
  refine cx_put (pc := 23) (C := RNA) (T := TTA) (N := 14) (ref := "NovaDesk$Assembler") (ty := (.object "NovaDesk$Labels")) (w1 := [(h0, .inr (3, [.ref q1, .ref q2, .null, .null, .null, .int 0, .null, .int 0, .int 0, .int 0, .int 0, .int 0, .int 0, .int 0]))] ++ w1_I_init cA q1 g9 ++ w1_L_init cA q2 g20) 0 1 inwA tyA_ok nmA rfl rfl (by decide) (Nat.le_of_ble_eq_true rfl) rfl (by decide +kernel) rfl (fun _ h => h) rfl rfl fx hw kw_218 d_A_init_23 (fun H locs hw => ?_)
  refine lv_aload_n (pc := 26) hx hb d_A_init_26 rfl (lv_at hl 0 rfl) ?_
  refine cx_newo (pc := 27) (C := RNL) (T := TTL) (N := 3) (ci := 5) (fs := [.null, .null, .int 0]) inwL tyL_ok fx hw kw_200 kw_201 kw_9 rfl (by decide) (Nat.le_of_ble_eq_true rfl) (Nat.le_of_ble_eq_true rfl) d_A_init_27 (fun q3 H hw => ?_)
  refine lv_dup (pc := 30) hx hb d_A_init_30 rfl ?_
  refine cx_res (pc := 31) (u := [(h0, .inr (3, [.ref q1, .ref q2, .null, .null, .null, .int 0, .null, .int 0, .int 0, .int 0, .int 0, .int 0, .int 0, .int 0]))] ++ w1_I_init cA q1 g9 ++ w1_L_init cA q2 g20) (w0 := [(q3, .inr (5, [.null, .null, .int 0]))]) (w1 := w1_L_init cA q3) hw (rnCN (n := 0) (pc := 31) (u := [(h0, .inr (3, [.ref q1, .ref q2, .null, .null, .null, .int 0, .null, .int 0, .int 0, .int 0, .int 0, .int 0, .int 0, .int 0]))] ++ w1_I_init cA q1 g9 ++ w1_L_init cA q2 g20) (w0 := [(q3, .inr (5, [.null, .null, .int 0]))]) xtK fx hw (c_L_init _ _ _ q3 _) (hw.2.2.2.2.2.2.2.2.2.1) kw_203 kw_9 kw_204 rfl (by decide +kernel) rfl ⟨Nat.le_of_ble_eq_true rfl, Nat.le_of_ble_eq_true rfl⟩ hl.1 (Nat.le_of_ble_eq_true rfl) d_A_init_31 ⟨Nat.le_of_ble_eq_true rfl, Nat.le_of_ble_eq_true rfl⟩) (fun g31 H locs hw => ?_)
  refine cx_put (pc := 34) (C := RNA) (T := TTA) (N := 14) (ref := "NovaDesk$Assembler") (ty := (.object "NovaDesk$Labels")) (w1 := [(h0, .inr (3, [.ref q1, .ref q2, .ref q3, .null, .null, .int 0, .null, .int 0, .int 0, .int 0, .int 0, .int 0, .int 0, .int 0]))] ++ w1_I_init cA q1 g9 ++ w1_L_init cA q2 g20 ++ w1_L_init cA q3 g31) 0 2 inwA tyA_ok nmA rfl rfl (by decide) (Nat.le_of_ble_eq_true rfl) rfl (by decide +kernel) rfl (fun _ h => h) rfl rfl fx hw kw_220 d_A_init_34 (fun H locs hw => ?_)
  refine lv_aload_n (pc := 37) hx hb d_A_init_37 rfl (lv_at hl 0 rfl) ?_
  refine lv_sipush (pc := 38) (v := 3000) hx hb d_A_init_38 (by decide) ?_
  refine cx_newa (pc := 41) (ty := .int) (N' := 3000) (a0 := (3000, .inl (fun _ => 0))) 0 rfl rfl (fun _ h => by cases h) (fun _ => rfl) (by decide) (by decide) (by decide) fx hw kw_86 (Nat.le_of_ble_eq_true rfl) (Nat.le_of_ble_eq_true rfl) d_A_init_41 (fun q4 H hw => ?_)
  refine cx_fin (pc := 43) (C := RNA) (T := TTA) (N := 14) (ref := "NovaDesk$Assembler") (ty := (.array .int)) (wz := [(h0, .inr (3, [.ref q1, .ref q2, .ref q3, .ref q4, .null, .int 0, .null, .int 0, .int 0, .int 0, .int 0, .int 0, .int 0, .int 0]))] ++ w1_I_init cA q1 g9 ++ w1_L_init cA q2 g20 ++ w1_L_init cA q3 g31 ++ [(q4, .inl (cA 0, 3000, .inl (fun _ => 0)))]) 0 3 inwA tyA_ok nmA rfl rfl (by decide) (Nat.le_of_ble_eq_true rfl) rfl rfl (by decide +kernel) rfl (fun _ h => h) rfl rfl fx hi hw kw_221 d_A_init_43 (fun H locs hw => ?_)
  refine lv_aload_n (pc := 46) hx hb d_A_init_46 rfl (lv_at hl 0 rfl) ?_
  refine lv_sipush (pc := 47) (v := 3000) hx hb d_A_init_47 (by decide) ?_
  refine cx_newa (pc := 50) (ty := .int) (N' := 3000) (a0 := (3000, .inl (fun _ => 0))) 0 rfl rfl (fun _ h => by cases h) (fun _ => rfl) (by decide) (by decide) (by decide) fx hw kw_86 (Nat.le_of_ble_eq_true rfl) (Nat.le_of_ble_eq_true rfl) d_A_init_50 (fun q5 H hw => ?_)
  refine cx_fin (pc := 52) (C := RNA) (T := TTA) (N := 14) (ref := "NovaDesk$Assembler") (ty := (.array .int)) (wz := [(h0, .inr (3, [.ref q1, .ref q2, .ref q3, .ref q4, .ref q5, .int 0, .null, .int 0, .int 0, .int 0, .int 0, .int 0, .int 0, .int 0]))] ++ w1_I_init cA q1 g9 ++ w1_L_init cA q2 g20 ++ w1_L_init cA q3 g31 ++ [(q4, .inl (cA 0, 3000, .inl (fun _ => 0)))] ++ [(q5, .inl (cA 0, 3000, .inl (fun _ => 0)))]) 0 4 inwA tyA_ok nmA rfl rfl (by decide) (Nat.le_of_ble_eq_true rfl) rfl rfl (by decide +kernel) rfl (fun _ h => h) rfl rfl fx hi hw kw_222 d_A_init_52 (fun H locs hw => ?_)
  refine lv_aload_n (pc := 55) hx hb d_A_init_55 rfl (lv_at hl 0 rfl) ?_
  refine lv_iconst (pc := 56) (v := 3) hx hb d_A_init_56 (by decide) ?_
  refine cx_newa (pc := 57) (ty := .int) (N' := 3) (a0 := (3, .inl (fun _ => 0))) 0 rfl rfl (fun _ h => by cases h) (fun _ => rfl) (by decide) (by decide) (by decide) fx hw kw_86 (Nat.le_of_ble_eq_true rfl) (Nat.le_of_ble_eq_true rfl) d_A_init_57 (fun q6 H hw => ?_)
  refine cx_fin (pc := 59) (C := RNA) (T := TTA) (N := 14) (ref := "NovaDesk$Assembler") (ty := (.array .int)) (wz := [(h0, .inr (3, [.ref q1, .ref q2, .ref q3, .ref q4, .ref q5, .int 0, .ref q6, .int 0, .int 0, .int 0, .int 0, .int 0, .int 0, .int 0]))] ++ w1_I_init cA q1 g9 ++ w1_L_init cA q2 g20 ++ w1_L_init cA q3 g31 ++ [(q4, .inl (cA 0, 3000, .inl (fun _ => 0)))] ++ [(q5, .inl (cA 0, 3000, .inl (fun _ => 0)))] ++ [(q6, .inl (cA 0, 3, .inl (fun _ => 0)))]) 0 6 inwA tyA_ok nmA rfl rfl (by decide) (Nat.le_of_ble_eq_true rfl) rfl rfl (by decide +kernel) rfl (fun _ h => h) rfl rfl fx hi hw kw_224 d_A_init_59 (fun H locs hw => ?_)
  exact HR (fun k => ([q1, (g9 0), (g9 1), q2, (g20 0), (g20 1), q3, (g31 0), (g31 1), q4, q5, q6] : List Nat).getD k 0) d_A_init_62 hw
def w1_T_init (cA : Nat → ClassId) (h0 : Nat) (q : Nat → Nat) : va_W := [(h0, .inr (6, [.ref (q 0), .int 0])), ((q 0), .inl (cA 4, 32, .inl (fun _ => 0)))]
set_option maxHeartbeats 4000000 in
set_option maxRecDepth 100000 in
theorem c_T_init (l : Launch) (D : va_G) (cA : Nat → ClassId) (h0 : Nat) : mC l y_T_init b_T_init 1 1 1 32 20 D vcl (tyl cA) XK [(h0, .inr (6, [.null, .int 0]))] [.ref h0] (w1_T_init cA h0) := by
  refine met_C (by decide) rfl (Nat.le_of_ble_eq_true rfl) (fun p e s m args below meth c A Q fx hi HR H ls hw hl => ?_)
  have hx := fx.1
  have hb := fx.2.1
  have hl : lv_has ls 1 [(0, .ref h0)] := hl
  refine lv_aload_n (pc := 0) hx hb d_T_init_0 rfl (lv_at hl 0 rfl) ?_
  refine cx_obj (pc := 1) fx kw_268 kw_32 kw_33 hl.1 d_T_init_1 (Nat.le_of_ble_eq_true rfl) (Nat.le_of_ble_eq_true rfl) (Nat.le_of_ble_eq_true rfl) ?_
  refine lv_aload_n (pc := 4) hx hb d_T_init_4 rfl (lv_at hl 0 rfl) ?_
  refine lv_bipush (pc := 5) (v := 32) hx hb d_T_init_5 (by decide) ?_
  refine cx_newa (pc := 7) (ty := .char) (N' := 32) (a0 := (32, .inl (fun _ => 0))) 4 rfl rfl (fun _ h => by cases h) (fun _ => rfl) (by decide) (by decide) (by decide) fx hw kw_87 (Nat.le_of_ble_eq_true rfl) (Nat.le_of_ble_eq_true rfl) d_T_init_7 (fun q1 H hw => ?_)
  refine cx_fin (pc := 9) (C := RNT) (T := TTT) (N := 2) (ref := "NovaDesk$Teller") (ty := (.array .char)) (wz := [(h0, .inr (6, [.ref q1, .int 0]))] ++ [(q1, .inl (cA 4, 32, .inl (fun _ => 0)))]) 0 0 inwT tyT_ok nmT rfl rfl (by decide) (Nat.le_of_ble_eq_true rfl) rfl rfl (by decide +kernel) rfl (fun _ h => h) rfl rfl fx hi hw kw_269 d_T_init_9 (fun H locs hw => ?_)
  exact HR (fun k => ([q1] : List Nat).getD k 0) d_T_init_12 hw
def w1_N_init (cA : Nat → ClassId) (h0 : Nat) (q : Nat → Nat) : va_W := [(h0, .inr (1, [.ref (q 0), .ref (q 9), .ref (q 22)])), ((q 0), .inr (2, [.ref (q 1), .ref (q 2), .ref (q 3), .ref (q 5), .ref (q 7), .int 0, .int 0, .int 0, .int 0, .int 0, .int 0, .int 0, .int 0, .int 0])), ((q 1), .inl (cA 0, 32768, .inl (fun _ => 0))), ((q 2), .inl (cA 0, 4, .inl (fun _ => 0))), ((q 3), .inr (7, [.int 2, .int 4, .int 0, .int 0, .int 0, .int 0, .ref (q 4), .int 0, .int 0])), ((q 4), .inl (cA 4, 500, .inl (fun _ => 0))), ((q 5), .inr (8, [.int 1, .int 4, .int 0, .int 0, .int 0, .int 0, .ref (q 6), .int 0])), ((q 6), .inl (cA 4, 1000, .inl (fun _ => 0))), ((q 7), .inl (cA 5, 3, .inr (.inr (.inr (.inr (va_up (va_up (va_up (fun _ => none) (0 : Int32).toNatClampNeg (some (q 3))) (1 : Int32).toNatClampNeg (some (q 5))) (2 : Int32).toNatClampNeg (some (q 8)))))))), ((q 8), .inr (9, [.int 4, .int 20, .int 0, .int 0, .int 0, .int 0])), ((q 9), .inr (3, [.ref (q 10), .ref (q 13), .ref (q 16), .ref (q 19), .ref (q 20), .int 0, .ref (q 21), .int 0, .int 0, .int 0, .int 0, .int 0, .int 0, .int 0])), ((q 10), .inr (4, [.ref (q 11), .int 0, .ref (q 12), .int 0, .int 0])), ((q 11), .inl (cA 4, 6000, .inl (fun _ => 0))), ((q 12), .inl (cA 1, 6001, .inr (.inl (fun _ => 0)))), ((q 13), .inr (5, [.ref (q 14), .ref (q 15), .int 0])), ((q 14), .inl (cA 1, 200, .inr (.inl (fun _ => 0)))), ((q 15), .inl (cA 0, 200, .inl (fun _ => 0))), ((q 16), .inr (5, [.ref (q 17), .ref (q 18), .int 0])), ((q 17), .inl (cA 1, 200, .inr (.inl (fun _ => 0)))), ((q 18), .inl (cA 0, 200, .inl (fun _ => 0))), ((q 19), .inl (cA 0, 3000, .inl (fun _ => 0))), ((q 20), .inl (cA 0, 3000, .inl (fun _ => 0))), ((q 21), .inl (cA 0, 3, .inl (fun _ => 0))), ((q 22), .inr (6, [.ref (q 23), .int 0])), ((q 23), .inl (cA 4, 32, .inl (fun _ => 0)))]
set_option maxHeartbeats 4000000 in
set_option maxRecDepth 100000 in
theorem c_N_init (l : Launch) (D : va_G) (cA : Nat → ClassId) (h0 : Nat) : mC l y_N_init b_N_init 1 4 24 53175 82 D vcl (tyl cA) XK [(h0, .inr (1, [.null, .null, .null]))] [.ref h0] (w1_N_init cA h0) := by
  refine met_C (by decide) rfl (Nat.le_of_ble_eq_true rfl) (fun p e s m args below meth c A Q fx hi HR H ls hw hl => ?_)
  have hx := fx.1
  have hb := fx.2.1
  have hl : lv_has ls 1 [(0, .ref h0)] := hl
  refine lv_aload_n (pc := 0) hx hb d_N_init_0 rfl (lv_at hl 0 rfl) ?_
  refine cx_obj (pc := 1) fx kw_31 kw_32 kw_33 hl.1 d_N_init_1 (Nat.le_of_ble_eq_true rfl) (Nat.le_of_ble_eq_true rfl) (Nat.le_of_ble_eq_true rfl) ?_
  refine lv_aload_n (pc := 4) hx hb d_N_init_4 rfl (lv_at hl 0 rfl) ?_
  refine cx_newo (pc := 5) (C := RNM) (T := TTM) (N := 14) (ci := 2) (fs := [.null, .null, .null, .null, .null, .int 0, .int 0, .int 0, .int 0, .int 0, .int 0, .int 0, .int 0, .int 0]) inwM tyM_ok fx hw kw_34 kw_35 kw_2 rfl (by decide) (Nat.le_of_ble_eq_true rfl) (Nat.le_of_ble_eq_true rfl) d_N_init_5 (fun q1 H hw => ?_)
  refine lv_dup (pc := 8) hx hb d_N_init_8 rfl ?_
  refine cx_res (pc := 9) (u := [(h0, .inr (1, [.null, .null, .null]))]) (w0 := [(q1, .inr (2, [.null, .null, .null, .null, .null, .int 0, .int 0, .int 0, .int 0, .int 0, .int 0, .int 0, .int 0, .int 0]))]) (w1 := w1_M_init cA q1) hw (rnCN (n := 0) (pc := 9) (u := [(h0, .inr (1, [.null, .null, .null]))]) (w0 := [(q1, .inr (2, [.null, .null, .null, .null, .null, .int 0, .int 0, .int 0, .int 0, .int 0, .int 0, .int 0, .int 0, .int 0]))]) xtK fx hw (c_M_init _ _ _ q1 _) (hw.2.2.2.2.2.1) kw_37 kw_2 kw_38 rfl (by decide +kernel) rfl ⟨Nat.le_of_ble_eq_true rfl, Nat.le_of_ble_eq_true rfl⟩ hl.1 (Nat.le_of_ble_eq_true rfl) d_N_init_9 ⟨Nat.le_of_ble_eq_true rfl, Nat.le_of_ble_eq_true rfl⟩) (fun g9 H locs hw => ?_)
  refine cx_fin (pc := 12) (C := RNN) (T := TTN) (N := 3) (ref := "NovaDesk") (ty := (.object "NovaDesk$Machine")) (wz := [(h0, .inr (1, [.ref q1, .null, .null]))] ++ w1_M_init cA q1 g9) 0 0 inwN tyN_ok nmN rfl rfl (by decide) (Nat.le_of_ble_eq_true rfl) rfl rfl (by decide +kernel) rfl (fun _ h => h) rfl rfl fx hi hw kw_276 d_N_init_12 (fun H locs hw => ?_)
  refine lv_aload_n (pc := 15) hx hb d_N_init_15 rfl (lv_at hl 0 rfl) ?_
  refine cx_newo (pc := 16) (C := RNA) (T := TTA) (N := 14) (ci := 3) (fs := [.null, .null, .null, .null, .null, .int 0, .null, .int 0, .int 0, .int 0, .int 0, .int 0, .int 0, .int 0]) inwA tyA_ok fx hw kw_168 kw_169 kw_7 rfl (by decide) (Nat.le_of_ble_eq_true rfl) (Nat.le_of_ble_eq_true rfl) d_N_init_16 (fun q2 H hw => ?_)
  refine lv_dup (pc := 19) hx hb d_N_init_19 rfl ?_
  refine cx_res (pc := 20) (u := [(h0, .inr (1, [.ref q1, .null, .null]))] ++ w1_M_init cA q1 g9) (w0 := [(q2, .inr (3, [.null, .null, .null, .null, .null, .int 0, .null, .int 0, .int 0, .int 0, .int 0, .int 0, .int 0, .int 0]))]) (w1 := w1_A_init cA q2) hw (rnCN (n := 0) (pc := 20) (u := [(h0, .inr (1, [.ref q1, .null, .null]))] ++ w1_M_init cA q1 g9) (w0 := [(q2, .inr (3, [.null, .null, .null, .null, .null, .int 0, .null, .int 0, .int 0, .int 0, .int 0, .int 0, .int 0, .int 0]))]) xtK fx hw (c_A_init _ _ _ q2 _) (hw.2.2.2.2.2.2.1) kw_171 kw_7 kw_172 rfl (by decide +kernel) rfl ⟨Nat.le_of_ble_eq_true rfl, Nat.le_of_ble_eq_true rfl⟩ hl.1 (Nat.le_of_ble_eq_true rfl) d_N_init_20 ⟨Nat.le_of_ble_eq_true rfl, Nat.le_of_ble_eq_true rfl⟩) (fun g20 H locs hw => ?_)
  refine cx_fin (pc := 23) (C := RNN) (T := TTN) (N := 3) (ref := "NovaDesk") (ty := (.object "NovaDesk$Assembler")) (wz := [(h0, .inr (1, [.ref q1, .ref q2, .null]))] ++ w1_M_init cA q1 g9 ++ w1_A_init cA q2 g20) 0 1 inwN tyN_ok nmN rfl rfl (by decide) (Nat.le_of_ble_eq_true rfl) rfl rfl (by decide +kernel) rfl (fun _ h => h) rfl rfl fx hi hw kw_277 d_N_init_23 (fun H locs hw => ?_)
  refine lv_aload_n (pc := 26) hx hb d_N_init_26 rfl (lv_at hl 0 rfl) ?_
  refine cx_newo (pc := 27) (C := RNT) (T := TTT) (N := 2) (ci := 6) (fs := [.null, .int 0]) inwT tyT_ok fx hw kw_263 kw_264 kw_10 rfl (by decide) (Nat.le_of_ble_eq_true rfl) (Nat.le_of_ble_eq_true rfl) d_N_init_27 (fun q3 H hw => ?_)
  refine lv_dup (pc := 30) hx hb d_N_init_30 rfl ?_
  refine cx_res (pc := 31) (u := [(h0, .inr (1, [.ref q1, .ref q2, .null]))] ++ w1_M_init cA q1 g9 ++ w1_A_init cA q2 g20) (w0 := [(q3, .inr (6, [.null, .int 0]))]) (w1 := w1_T_init cA q3) hw (rnCN (n := 0) (pc := 31) (u := [(h0, .inr (1, [.ref q1, .ref q2, .null]))] ++ w1_M_init cA q1 g9 ++ w1_A_init cA q2 g20) (w0 := [(q3, .inr (6, [.null, .int 0]))]) xtK fx hw (c_T_init _ _ _ q3 _) (hw.2.2.2.2.2.2.2.1) kw_266 kw_10 kw_267 rfl (by decide +kernel) rfl ⟨Nat.le_of_ble_eq_true rfl, Nat.le_of_ble_eq_true rfl⟩ hl.1 (Nat.le_of_ble_eq_true rfl) d_N_init_31 ⟨Nat.le_of_ble_eq_true rfl, Nat.le_of_ble_eq_true rfl⟩) (fun g31 H locs hw => ?_)
  refine cx_fin (pc := 34) (C := RNN) (T := TTN) (N := 3) (ref := "NovaDesk") (ty := (.object "NovaDesk$Teller")) (wz := [(h0, .inr (1, [.ref q1, .ref q2, .ref q3]))] ++ w1_M_init cA q1 g9 ++ w1_A_init cA q2 g20 ++ w1_T_init cA q3 g31) 0 2 inwN tyN_ok nmN rfl rfl (by decide) (Nat.le_of_ble_eq_true rfl) rfl rfl (by decide +kernel) rfl (fun _ h => h) rfl rfl fx hi hw kw_278 d_N_init_34 (fun H locs hw => ?_)
  exact HR (fun k => ([q1, (g9 0), (g9 1), (g9 2), (g9 3), (g9 4), (g9 5), (g9 6), (g9 7), q2, (g20 0), (g20 1), (g20 2), (g20 3), (g20 4), (g20 5), (g20 6), (g20 7), (g20 8), (g20 9), (g20 10), (g20 11), q3, (g31 0)] : List Nat).getD k 0) d_N_init_37 hw
