/-! the claim -/
set_option maxHeartbeats 4000000 in
set_option maxRecDepth 100000 in
theorem whole_start {p : Program} {e : Env} {s : State} {m : MethodId} {below : List Frame} {meth : Method} {c : Code} (l : Launch) (hfl : l.flags = flags0) {b L : Nat} {xs : Nat → Int32} (hL : L ≤ 3072) (C0 : lw_At p s m meth c b L xs) : W p l e room_1 s m #[Value.ref b] below meth c s.heap [] 0 0 (lw_Z below #[Value.ref b] s) (entryFrame m ([Value.ref b] : List Value).toArray 7) := by
  obtain ⟨hx, hb, hr, hml, hown, hts, hX, hbl, hlocks, hgv⟩ := id C0
  have hT : ∀ w ∈ tables_1, w.before #[Value.ref b] s = true := fun w hw => hts w (List.mem_append_right _ hw)
  have hG : ∀ w ∈ GW, w.before #[Value.ref b] s = true := fun w hw => hts w (List.mem_filter.mp hw).1
  obtain ⟨ad, hXL⟩ := xl_start hT hgv
  obtain ⟨D, cA, hK⟩ := k_start hT hG
  have fx : CallFix p m c code 7 s #[Value.ref b] GW "NovaDeskLaw" := ⟨hx, hb, hml, hown, hG⟩
  have hw : CX D vcl (tyl cA) [] XK (LA s) s s.heap [] := ⟨hK, fun k q h => by simp at h, ⟨fun i j p q h => by simp at h, fun k q h => by simp at h⟩, va_S.rf, fun _ h => h, hXL.2.1⟩
  have hl := lv_entry ([.ref b]) (n := 7) (Nat.le_of_ble_eq_true rfl)
  rw [lg_entry_eq]
  generalize (lg_sl ([.ref b]) ++ List.replicate (7 - (lg_sl ([.ref b])).length) Slot.unset).toArray = ls at hl ⊢
  have hl : lv_has ls 7 [(0, .ref b)] := hl
  refine cx_newo (pc := 0) (C := RNN) (T := TTN) (N := 3) (ci := 1) (fs := [.null, .null, .null]) inwN tyN_ok fx hw (gwt tw_l0) (gwt tw_nN) (gwt tw_iN) rfl (by decide) (Nat.le_of_ble_eq_true rfl) (Nat.le_of_ble_eq_true rfl) d_law_0 (fun h0 H hw => ?_)
  refine lv_dup (pc := 3) hx hb d_law_3 rfl ?_
  refine cx_res (pc := 4) (u := []) (w0 := [(h0, .inr (1, [.null, .null, .null]))]) (w1 := w1_N_init cA h0) hw (rnC (n := 0) (pc := 4) (u := []) (w0 := [(h0, .inr (1, [.null, .null, .null]))]) xtK fx hw (c_N_init _ _ _ h0 _) (gwt tw_l2) (gwt tw_mN) (gwt tw_iN) (gwt tw_cN) rfl (by decide +kernel) rfl ⟨Nat.le_of_ble_eq_true rfl, Nat.le_of_ble_eq_true rfl⟩ hl.1 (Nat.le_of_ble_eq_true rfl) d_law_4 ⟨Nat.le_of_ble_eq_true rfl, Nat.le_of_ble_eq_true rfl⟩) (fun qN H locs hw => ?_)
  refine lv_astore_n (pc := 7) (lv' := [(1, .ref h0), (0, .ref b)]) hx hb d_law_7 rfl hl (by decide) rfl (fun ls hl => ?_)
  refine cx_newo (pc := 8) (C := RNR) (T := TTR) (N := 49) (ci := 0) (fs := [.null, .null, .int 0, .int 0, .int 0, .int 0, .int 0, .int 0, .int 0, .int 0, .int 0, .null, .null, .null, .null, .null, .int 0, .null, .int 0, .int 0, .null, .int 0, .int 0, .int 0, .int 0, .null, .null, .int 0, .null, .null, .int 0, .null, .null, .int 0, .int 0, .int 0, .int 0, .int 0, .int 0, .long 0, .null, .null, .int 0, .int 0, .int 0, .int 0, .null, .int 0, .int 0]) inwR tyR_ok fx hw (gwt tw_l1) (gwt tw_nR) (gwt tw_iR) rfl (by decide) (Nat.le_of_ble_eq_true rfl) (Nat.le_of_ble_eq_true rfl) d_law_8 (fun r0 H hw => ?_)
  refine lv_dup (pc := 11) hx hb d_law_11 rfl ?_
  refine cx_res (pc := 12) (u := [] ++ w1_N_init cA h0 qN) (w0 := [(r0, .inr (0, [.null, .null, .int 0, .int 0, .int 0, .int 0, .int 0, .int 0, .int 0, .int 0, .int 0, .null, .null, .null, .null, .null, .int 0, .null, .int 0, .int 0, .null, .int 0, .int 0, .int 0, .int 0, .null, .null, .int 0, .null, .null, .int 0, .null, .null, .int 0, .int 0, .int 0, .int 0, .int 0, .int 0, .long 0, .null, .null, .int 0, .int 0, .int 0, .int 0, .null, .int 0, .int 0]))]) (w1 := w1_R_init cA r0) hw (rnC (n := 0) (pc := 12) (u := [] ++ w1_N_init cA h0 qN) (w0 := [(r0, .inr (0, [.null, .null, .int 0, .int 0, .int 0, .int 0, .int 0, .int 0, .int 0, .int 0, .int 0, .null, .null, .null, .null, .null, .int 0, .null, .int 0, .int 0, .null, .int 0, .int 0, .int 0, .int 0, .null, .null, .int 0, .null, .null, .int 0, .null, .null, .int 0, .int 0, .int 0, .int 0, .int 0, .int 0, .long 0, .null, .null, .int 0, .int 0, .int 0, .int 0, .null, .int 0, .int 0]))]) xtK fx hw (c_R_init _ _ _ r0 _) (gwt tw_l3) (gwt tw_mR) (gwt tw_iR) (gwt tw_cR) rfl (by decide +kernel) rfl ⟨Nat.le_of_ble_eq_true rfl, Nat.le_of_ble_eq_true rfl⟩ hl.1 (Nat.le_of_ble_eq_true rfl) d_law_12 ⟨Nat.le_of_ble_eq_true rfl, Nat.le_of_ble_eq_true rfl⟩) (fun qR H locs hw => ?_)
  refine lv_astore_n (pc := 15) (lv' := [(2, .ref r0), (1, .ref h0), (0, .ref b)]) hx hb d_law_15 rfl hl (by decide) rfl (fun ls hl => ?_)
  refine lv_iconst (pc := 16) (v := 1) hx hb d_law_16 rfl ?_
  refine cx_newa (pc := 17) (ty := .long) (N' := 1) (a0 := (1, .inr (.inl (fun _ => 0)))) 1 rfl rfl (fun _ h => by cases h) (fun _ => rfl) (by decide) (by decide) (by decide) fx hw (gwt tw_along) (Nat.le_of_ble_eq_true rfl) (Nat.le_of_ble_eq_true rfl) d_law_17 (fun o H hw => ?_)
  refine lv_astore_n (pc := 19) (lv' := [(3, .ref o), (2, .ref r0), (1, .ref h0), (0, .ref b)]) hx hb d_law_19 rfl hl (by decide) rfl (fun ls hl => ?_)
  refine lv_iconst (pc := 20) (v := 0) hx hb d_law_20 rfl ?_
  refine lv_istore (pc := 21) (lv' := [(4, .int 0), (3, .ref o), (2, .ref r0), (1, .ref h0), (0, .ref b)]) hx hb d_law_21 hl (by decide) rfl (fun ls hl => ?_)
  refine W.widen (k := 100) (n := 200000) (by omega) (by omega) ?_
  have hw := world_0 (X1 := XL ad) hXL hw
  exact law_loop hfl fx hr hlocks hX hbl hL (RelJ := RelJ) (fun j hj => pt_all j hj) RelJ_mono 512 0 (by omega) (by omega) rel_0 hw (lv_sub hl [0, 4, 3, 2, 1] rfl)
