/-! the reference, walked: part 3 -/
abbrev r_R_next : Room := { frames := 1, cells := 0, slots := 0, locals := 21 }
def f_R_next_396 (post : Int32 → SS → Prop) (σ : SS) (s0 : Int32) : Prop := br (s0 = 0) (f_R_stop (fun r_2 σ_1 => br (r_2 = 0) (post 0 σ_1) (post 1 σ_1)) σ 1) (post 1 σ)
def f_R_next_356 (post : Int32 → SS → Prop) (σ : SS) (x2 : Int32) (x3 : Int32) : Prop := br ((σ.1 22) = 1) (br (7 ≤ x2) (f_R_next_396 post σ 0) (f_R_next_396 post σ 1)) (br (x3 = 0) (f_R_next_396 post σ 0) (br (65536 ≤ (σ.1 23)) (f_R_next_396 post σ 0) (f_R_next_396 post σ 1)))
def f_R_next_343 (post : Int32 → SS → Prop) (k203 : SS → Int32 → Int32 → Prop) (σ : SS) (x2 : Int32) (x3 : Int32) : Prop := nm (sI σ 20 ((σ.1 20) + 1)) fun σ_3 => k203 σ_3 x2 x3
def f_R_next_340 (post : Int32 → SS → Prop) (k203 : SS → Int32 → Int32 → Prop) (σ : SS) (x2 : Int32) (x3 : Int32) (s0 : Int32) : Prop := nm (sI σ 23 s0) fun σ_4 => f_R_next_343 post k203 σ_4 x2 x3
def f_R_next_306 (post : Int32 → SS → Prop) (k203 : SS → Int32 → Int32 → Prop) (σ : SS) (x1 : Int32) (x2 : Int32) (s0 : Int32) : Prop := br (s0 = 0) (f_R_next_340 post k203 σ x2 s0 (σ.1 23)) (br (65536 ≤ (σ.1 23)) (f_R_next_340 post k203 σ x2 s0 (σ.1 23)) (f_R_next_340 post k203 σ x2 s0 (((8 * (σ.1 23)) + x1) - 48)))
def f_R_next_277 (post : Int32 → SS → Prop) (k203 : SS → Int32 → Int32 → Prop) (σ : SS) (x1 : Int32) (x2 : Int32) (x3 : Int32) : Prop := br ((σ.1 22) = 2) (br (x3 = 0) (f_R_next_306 post k203 σ x1 x2 0) (br (x1 < 48) (f_R_next_306 post k203 σ x1 x2 0) (br (55 < x1) (f_R_next_306 post k203 σ x1 x2 0) (f_R_next_306 post k203 σ x1 x2 1)))) (f_R_next_343 post k203 σ x2 x3)
def f_R_next_244 (post : Int32 → SS → Prop) (k203 : SS → Int32 → Int32 → Prop) (σ : SS) (x2 : Int32) (x3 : Int32) : Prop := vp_in (σ.1 20) 6000 ∧ nm (σ.2.1 9 (σ.1 20).toNatClampNeg) fun x1_5 => nm (x2 + 1) fun x2_6 => br (7 ≤ x2_6) (f_R_next_277 post k203 σ x1_5 x2_6 x3) (nm (sL σ 0 (((σ.2.2.1 0) <<< ((8 : Int32).toInt64 &&& 63)) ||| (x1_5.toInt64))) fun σ_7 => f_R_next_277 post k203 σ_7 x1_5 x2_6 x3)
def f_R_next_203 (post : Int32 → SS → Prop) : Nat → SS → Int32 → Int32 → Prop
  | 0, _, _, _ => False
  | n + 1, σ, x2, x3 => br ((σ.1 21) ≤ (σ.1 20)) (f_R_next_356 post σ x2 x3) (vp_in (σ.1 20) 6000 ∧ f_R_isLetter (fun r_9 σ_8 => br (r_9 = 0) (vp_in (σ_8.1 20) 6000 ∧ f_R_isDigit (fun r_11 σ_10 => br (r_11 = 0) (f_R_next_356 post σ_10 x2 x3) (f_R_next_244 post (f_R_next_203 post n) σ_10 x2 x3)) σ_8 (σ_8.2.1 9 (σ_8.1 20).toNatClampNeg)) (f_R_next_244 post (f_R_next_203 post n) σ_8 x2 x3)) σ (σ.2.1 9 (σ.1 20).toNatClampNeg))
def f_R_next_186 (post : Int32 → SS → Prop) (σ : SS) (s0 : Int32) : Prop := nm (sI σ 22 s0) fun σ_12 => nm (sL σ_12 0 0) fun σ_13 => nm (sI σ_13 23 0) fun σ_14 => ∃ n9, f_R_next_203 post n9 σ_14 0 1
def f_R_next_173 (post : Int32 → SS → Prop) (σ : SS) (x1 : Int32) : Prop := f_R_isLetter (fun r_16 σ_15 => br (r_16 = 0) (f_R_next_186 post σ_15 2) (f_R_next_186 post σ_15 1)) σ x1
def f_R_next_61 (post : Int32 → SS → Prop) (σ : SS) : Prop := nm (sI σ 22 0) fun σ_17 => br ((σ_17.1 20) = (σ_17.1 21)) (post 1 σ_17) (vp_in (σ_17.1 20) 6000 ∧ nm (σ_17.2.1 9 (σ_17.1 20).toNatClampNeg) fun x1_18 => f_R_isLetter (fun r_20 σ_19 => br (r_20 = 0) (f_R_isDigit (fun r_22 σ_21 => br (r_22 = 0) (nm (sI σ_21 22 3) fun σ_23 => nm (sI σ_23 23 x1_18) fun σ_24 => nm (sI σ_24 20 ((σ_24.1 20) + 1)) fun σ_25 => br (x1_18 = 43) (post 1 σ_25) (br (x1_18 = 45) (post 1 σ_25) (br (x1_18 = 44) (post 1 σ_25) (br (x1_18 = 64) (post 1 σ_25) (br (x1_18 = 35) (post 1 σ_25) (br (x1_18 = 58) (post 1 σ_25) (f_R_stop (fun r_27 σ_26 => br (r_27 = 0) (post 0 σ_26) (post 1 σ_26)) σ_25 1))))))) (f_R_next_173 post σ_21 x1_18)) σ_19 x1_18) (f_R_next_173 post σ_19 x1_18)) σ_17 x1_18)
def f_R_next_48 (post : Int32 → SS → Prop) (k9 : SS → Prop) (σ : SS) : Prop := nm (sI σ 20 ((σ.1 20) + 1)) fun σ_28 => k9 σ_28
def f_R_next_9 (post : Int32 → SS → Prop) : Nat → SS → Prop
  | 0, _ => False
  | n + 1, σ => br ((σ.1 21) ≤ (σ.1 20)) (f_R_next_61 post σ) (vp_in (σ.1 20) 6000 ∧ br ((σ.2.1 9 (σ.1 20).toNatClampNeg) = 32) (f_R_next_48 post (f_R_next_9 post n) σ) (vp_in (σ.1 20) 6000 ∧ br ((σ.2.1 9 (σ.1 20).toNatClampNeg) = 9) (f_R_next_48 post (f_R_next_9 post n) σ) (f_R_next_61 post σ)))
def f_R_next (post : Int32 → SS → Prop) (σ : SS) : Prop := br ((σ.1 13) = 0) (∃ n9, f_R_next_9 post n9 σ) (post 0 σ)
section
variable {p : Program} {l : Launch} {e : Env} {s : State} {m : MethodId} {args : Array Value} {below : List Frame} {meth : Method} {c : Code} {Q : State → Prop} {D : va_G} {cA : Nat → ClassId} {a : Nat → Nat} {X : (Nat → Prop) → State → Prop} {A : Nat → Prop}
set_option maxHeartbeats 4000000 in
set_option maxRecDepth 100000 in
theorem c_R_next_396 (hX : XT X) (fx : CallFix p m c b_R_next 4 s args GW RNR) {post : Int32 → SS → Prop} (HR : RetI p l e r_R_next s m args below meth c Q D vcl (tyl cA) (wR cA a) X A b_R_next .boolean (fun r σ => bz r ∧ post r σ)) {σ : SS} {s0 : Int32} {H : Heap} {locs : List Loc} {ls : Array Slot} (h : f_R_next_396 post σ s0) (hw : CX D vcl (tyl cA) (wR cA a σ) X A s H locs) (hl : lv_has ls 4 [(0, .ref (a 0))]) : W p l e r_R_next s m args below meth c H locs 0 0 Q (F0 m 396 ls [.int s0]) := by
  have hx := fx.1
  have hb := fx.2.1
  unfold f_R_next_396 at h
  refine lv_istore_n (pc := 396) (lv' := [(3, .int s0), (0, .ref (a 0))]) hx hb d_R_next_396 rfl hl (by decide) rfl (fun ls hl => ?_)
  refine lv_iload_n (pc := 397) hx hb d_R_next_397 rfl (lv_at hl 0 rfl) ?_
  refine lv_if_ne (pc := 398) (tgt := 409) hx hb d_R_next_398 (by decide) (fun c9 => ?_) (fun c9 => ?_)
  · replace h := h.2 c9
    refine lv_iconst (pc := 409) (v := 1) hx hb d_R_next_409 (by decide) ?_
    refine lv_goto (pc := 410) (tgt := 414) hx hb d_R_next_410 (by decide) ?_
    exact HR (bz_n bz_1) d_R_next_414 ⟨bz_1, h⟩ hw
  · replace h := h.1 c9
    refine lv_aload_n (pc := 401) hx hb d_R_next_401 rfl (lv_at hl 1 rfl) ?_
    refine lv_iconst (pc := 402) (v := 1) hx hb d_R_next_402 (by decide) ?_
    refine cxI (pc := 403) hX fx hw (c_R_stop hX h) cw_R_191 (rcR_0 hw) rfl ⟨Nat.le_of_ble_eq_true rfl, Nat.le_of_ble_eq_true rfl⟩ hl.1 (Nat.le_of_ble_eq_true rfl) d_R_next_403 ⟨Nat.zero_le _, Nat.zero_le _⟩ (fun r_2 σ_1 H locs hw h => ?_)
    have zr_2 := h.1
    replace h := h.2
    refine lv_if_eq (pc := 406) (tgt := 413) hx hb d_R_next_406 (by decide) (fun c9 => ?_) (fun c9 => ?_)
    · replace h := h.1 c9
      refine lv_iconst (pc := 413) (v := 0) hx hb d_R_next_413 (by decide) ?_
      exact HR (bz_n bz_0) d_R_next_414 ⟨bz_0, h⟩ hw
    · replace h := h.2 c9
      refine lv_iconst (pc := 409) (v := 1) hx hb d_R_next_409 (by decide) ?_
      refine lv_goto (pc := 410) (tgt := 414) hx hb d_R_next_410 (by decide) ?_
      exact HR (bz_n bz_1) d_R_next_414 ⟨bz_1, h⟩ hw
set_option maxHeartbeats 4000000 in
set_option maxRecDepth 100000 in
theorem c_R_next_356 (hX : XT X) (fx : CallFix p m c b_R_next 4 s args GW RNR) {post : Int32 → SS → Prop} (HR : RetI p l e r_R_next s m args below meth c Q D vcl (tyl cA) (wR cA a) X A b_R_next .boolean (fun r σ => bz r ∧ post r σ)) {σ : SS} {x2 : Int32} {x3 : Int32} {H : Heap} {locs : List Loc} {ls : Array Slot} (h : f_R_next_356 post σ x2 x3) (hw : CX D vcl (tyl cA) (wR cA a σ) X A s H locs) (hl : lv_has ls 4 [(0, .ref (a 0)), (2, .int x2), (3, .int x3)]) : W p l e r_R_next s m args below meth c H locs 0 0 Q (F0 m 356 ls []) := by
  have hx := fx.1
  have hb := fx.2.1
  unfold f_R_next_356 at h
  refine lv_aload_n (pc := 356) hx hb d_R_next_356 rfl (lv_at hl 0 rfl) ?_
  refine gR_0_kind (pc := 357) fx hw kw_1104 d_R_next_357 ?_
  refine lv_iconst (pc := 360) (v := 1) hx hb d_R_next_360 (by decide) ?_
  refine lv_icmp_ne (pc := 361) (tgt := 378) hx hb d_R_next_361 (by decide) (fun c9 => ?_) (fun c9 => ?_)
  · replace h := h.2 c9
    refine lv_iload_n (pc := 378) hx hb d_R_next_378 rfl (lv_at hl 2 rfl) ?_
    refine lv_if_eq (pc := 379) (tgt := 395) hx hb d_R_next_379 (by decide) (fun c9 => ?_) (fun c9 => ?_)
    · replace h := h.1 c9
      refine lv_iconst (pc := 395) (v := 0) hx hb d_R_next_395 (by decide) ?_
      exact c_R_next_396 hX fx HR h hw (lv_sub hl [0] rfl)
    · replace h := h.2 c9
      refine lv_aload_n (pc := 382) hx hb d_R_next_382 rfl (lv_at hl 0 rfl) ?_
      refine gR_0_value (pc := 383) fx hw kw_1105 d_R_next_383 ?_
      refine lv_ldc (pc := 386) (v := 65536) hx hb fx.2.2.2.1 (fx.2.2.2.2 _ kw_1288) d_R_next_386 ?_
      refine lv_icmp_ge (pc := 388) (tgt := 395) hx hb d_R_next_388 (by decide) (fun c9 => ?_) (fun c9 => ?_)
      · replace h := h.1 c9
        refine lv_iconst (pc := 395) (v := 0) hx hb d_R_next_395 (by decide) ?_
        exact c_R_next_396 hX fx HR h hw (lv_sub hl [0] rfl)
      · replace h := h.2 c9
        refine lv_iconst (pc := 391) (v := 1) hx hb d_R_next_391 (by decide) ?_
        refine lv_goto (pc := 392) (tgt := 396) hx hb d_R_next_392 (by decide) ?_
        exact c_R_next_396 hX fx HR h hw (lv_sub hl [0] rfl)
  · replace h := h.1 c9
    refine lv_iload_n (pc := 364) hx hb d_R_next_364 rfl (lv_at hl 1 rfl) ?_
    refine lv_bipush (pc := 365) (v := 7) hx hb d_R_next_365 (by decide) ?_
    refine lv_icmp_ge (pc := 367) (tgt := 374) hx hb d_R_next_367 (by decide) (fun c9 => ?_) (fun c9 => ?_)
    · replace h := h.1 c9
      refine lv_iconst (pc := 374) (v := 0) hx hb d_R_next_374 (by decide) ?_
      refine lv_goto (pc := 375) (tgt := 396) hx hb d_R_next_375 (by decide) ?_
      exact c_R_next_396 hX fx HR h hw (lv_sub hl [0] rfl)
    · replace h := h.2 c9
      refine lv_iconst (pc := 370) (v := 1) hx hb d_R_next_370 (by decide) ?_
      refine lv_goto (pc := 371) (tgt := 396) hx hb d_R_next_371 (by decide) ?_
      exact c_R_next_396 hX fx HR h hw (lv_sub hl [0] rfl)
set_option maxHeartbeats 4000000 in
set_option maxRecDepth 100000 in
theorem c_R_next_343 (hX : XT X) (fx : CallFix p m c b_R_next 4 s args GW RNR) {post : Int32 → SS → Prop} (HR : RetI p l e r_R_next s m args below meth c Q D vcl (tyl cA) (wR cA a) X A b_R_next .boolean (fun r σ => bz r ∧ post r σ)) {k203 : SS → Int32 → Int32 → Prop} (K203 : ∀ {σ : SS} {x2 : Int32} {x3 : Int32} {H : Heap} {locs : List Loc} {ls : Array Slot}, k203 σ x2 x3 → CX D vcl (tyl cA) (wR cA a σ) X A s H locs → lv_has ls 4 [(0, .ref (a 0)), (2, .int x2), (3, .int x3)] → W p l e r_R_next s m args below meth c H locs 0 0 Q (F0 m 203 ls [])) {σ : SS} {x2 : Int32} {x3 : Int32} {H : Heap} {locs : List Loc} {ls : Array Slot} (h : f_R_next_343 post k203 σ x2 x3) (hw : CX D vcl (tyl cA) (wR cA a σ) X A s H locs) (hl : lv_has ls 4 [(0, .ref (a 0)), (2, .int x2), (3, .int x3)]) : W p l e r_R_next s m args below meth c H locs 0 0 Q (F0 m 343 ls []) := by
  have hx := fx.1
  have hb := fx.2.1
  unfold f_R_next_343 at h
  refine lv_aload_n (pc := 343) hx hb d_R_next_343 rfl (lv_at hl 0 rfl) ?_
  refine lv_dup (pc := 344) hx hb d_R_next_344 rfl ?_
  refine gR_0_at (pc := 345) fx hw kw_1102 d_R_next_345 ?_
  refine lv_iconst (pc := 348) (v := 1) hx hb d_R_next_348 (by decide) ?_
  refine lv_iadd (pc := 349) hx hb d_R_next_349 ?_
  refine pR_0_at (pc := 350) fx hw kw_1102 d_R_next_350 (fun σ_3 e9 H locs hw => ?_)
  replace h := nm_u h e9
  clear e9
  refine lv_goto (pc := 353) (tgt := 203) hx hb d_R_next_353 (by decide) ?_
  exact K203 h hw (lv_sub hl [0, 1, 2] rfl)
set_option maxHeartbeats 4000000 in
set_option maxRecDepth 100000 in
theorem c_R_next_340 (hX : XT X) (fx : CallFix p m c b_R_next 4 s args GW RNR) {post : Int32 → SS → Prop} (HR : RetI p l e r_R_next s m args below meth c Q D vcl (tyl cA) (wR cA a) X A b_R_next .boolean (fun r σ => bz r ∧ post r σ)) {k203 : SS → Int32 → Int32 → Prop} (K203 : ∀ {σ : SS} {x2 : Int32} {x3 : Int32} {H : Heap} {locs : List Loc} {ls : Array Slot}, k203 σ x2 x3 → CX D vcl (tyl cA) (wR cA a σ) X A s H locs → lv_has ls 4 [(0, .ref (a 0)), (2, .int x2), (3, .int x3)] → W p l e r_R_next s m args below meth c H locs 0 0 Q (F0 m 203 ls [])) {σ : SS} {x2 : Int32} {x3 : Int32} {s0 : Int32} {H : Heap} {locs : List Loc} {ls : Array Slot} (h : f_R_next_340 post k203 σ x2 x3 s0) (hw : CX D vcl (tyl cA) (wR cA a σ) X A s H locs) (hl : lv_has ls 4 [(0, .ref (a 0)), (2, .int x2), (3, .int x3)]) : W p l e r_R_next s m args below meth c H locs 0 0 Q (F0 m 340 ls [.int s0, .ref (a 0)]) := by
  have hx := fx.1
  have hb := fx.2.1
  unfold f_R_next_340 at h
  refine pR_0_value (pc := 340) fx hw kw_1105 d_R_next_340 (fun σ_4 e9 H locs hw => ?_)
  replace h := nm_u h e9
  clear e9
  exact c_R_next_343 hX fx HR K203 h hw (lv_sub hl [0, 1, 2] rfl)
set_option maxHeartbeats 4000000 in
set_option maxRecDepth 100000 in
theorem c_R_next_306 (hX : XT X) (fx : CallFix p m c b_R_next 4 s args GW RNR) {post : Int32 → SS → Prop} (HR : RetI p l e r_R_next s m args below meth c Q D vcl (tyl cA) (wR cA a) X A b_R_next .boolean (fun r σ => bz r ∧ post r σ)) {k203 : SS → Int32 → Int32 → Prop} (K203 : ∀ {σ : SS} {x2 : Int32} {x3 : Int32} {H : Heap} {locs : List Loc} {ls : Array Slot}, k203 σ x2 x3 → CX D vcl (tyl cA) (wR cA a σ) X A s H locs → lv_has ls 4 [(0, .ref (a 0)), (2, .int x2), (3, .int x3)] → W p l e r_R_next s m args below meth c H locs 0 0 Q (F0 m 203 ls [])) {σ : SS} {x1 : Int32} {x2 : Int32} {s0 : Int32} {H : Heap} {locs : List Loc} {ls : Array Slot} (h : f_R_next_306 post k203 σ x1 x2 s0) (hw : CX D vcl (tyl cA) (wR cA a σ) X A s H locs) (hl : lv_has ls 4 [(0, .ref (a 0)), (1, .int x1), (2, .int x2)]) : W p l e r_R_next s m args below meth c H locs 0 0 Q (F0 m 306 ls [.int s0]) := by
  have hx := fx.1
  have hb := fx.2.1
  unfold f_R_next_306 at h
  refine lv_istore_n (pc := 306) (lv' := [(3, .int s0), (0, .ref (a 0)), (1, .int x1), (2, .int x2)]) hx hb d_R_next_306 rfl hl (by decide) rfl (fun ls hl => ?_)
  refine lv_aload_n (pc := 307) hx hb d_R_next_307 rfl (lv_at hl 1 rfl) ?_
  refine lv_iload_n (pc := 308) hx hb d_R_next_308 rfl (lv_at hl 0 rfl) ?_
  refine lv_if_eq (pc := 309) (tgt := 336) hx hb d_R_next_309 (by decide) (fun c9 => ?_) (fun c9 => ?_)
  · replace h := h.1 c9
    refine lv_aload_n (pc := 336) hx hb d_R_next_336 rfl (lv_at hl 1 rfl) ?_
    refine gR_0_value (pc := 337) fx hw kw_1105 d_R_next_337 ?_
    exact c_R_next_340 hX fx HR K203 h hw (lv_sub hl [1, 3, 0] rfl)
  · replace h := h.2 c9
    refine lv_aload_n (pc := 312) hx hb d_R_next_312 rfl (lv_at hl 1 rfl) ?_
    refine gR_0_value (pc := 313) fx hw kw_1105 d_R_next_313 ?_
    refine lv_ldc (pc := 316) (v := 65536) hx hb fx.2.2.2.1 (fx.2.2.2.2 _ kw_1288) d_R_next_316 ?_
    refine lv_icmp_ge (pc := 318) (tgt := 336) hx hb d_R_next_318 (by decide) (fun c9 => ?_) (fun c9 => ?_)
    · replace h := h.1 c9
      refine lv_aload_n (pc := 336) hx hb d_R_next_336 rfl (lv_at hl 1 rfl) ?_
      refine gR_0_value (pc := 337) fx hw kw_1105 d_R_next_337 ?_
      exact c_R_next_340 hX fx HR K203 h hw (lv_sub hl [1, 3, 0] rfl)
    · replace h := h.2 c9
      refine lv_bipush (pc := 321) (v := 8) hx hb d_R_next_321 (by decide) ?_
      refine lv_aload_n (pc := 323) hx hb d_R_next_323 rfl (lv_at hl 1 rfl) ?_
      refine gR_0_value (pc := 324) fx hw kw_1105 d_R_next_324 ?_
      refine lv_imul (pc := 327) hx hb d_R_next_327 ?_
      refine lv_iload_n (pc := 328) hx hb d_R_next_328 rfl (lv_at hl 2 rfl) ?_
      refine lv_iadd (pc := 329) hx hb d_R_next_329 ?_
      refine lv_bipush (pc := 330) (v := 48) hx hb d_R_next_330 (by decide) ?_
      refine lv_isub (pc := 332) hx hb d_R_next_332 ?_
      refine lv_goto (pc := 333) (tgt := 340) hx hb d_R_next_333 (by decide) ?_
      exact c_R_next_340 hX fx HR K203 h hw (lv_sub hl [1, 3, 0] rfl)
set_option maxHeartbeats 4000000 in
set_option maxRecDepth 100000 in
theorem c_R_next_277 (hX : XT X) (fx : CallFix p m c b_R_next 4 s args GW RNR) {post : Int32 → SS → Prop} (HR : RetI p l e r_R_next s m args below meth c Q D vcl (tyl cA) (wR cA a) X A b_R_next .boolean (fun r σ => bz r ∧ post r σ)) {k203 : SS → Int32 → Int32 → Prop} (K203 : ∀ {σ : SS} {x2 : Int32} {x3 : Int32} {H : Heap} {locs : List Loc} {ls : Array Slot}, k203 σ x2 x3 → CX D vcl (tyl cA) (wR cA a σ) X A s H locs → lv_has ls 4 [(0, .ref (a 0)), (2, .int x2), (3, .int x3)] → W p l e r_R_next s m args below meth c H locs 0 0 Q (F0 m 203 ls [])) {σ : SS} {x1 : Int32} {x2 : Int32} {x3 : Int32} {H : Heap} {locs : List Loc} {ls : Array Slot} (h : f_R_next_277 post k203 σ x1 x2 x3) (hw : CX D vcl (tyl cA) (wR cA a σ) X A s H locs) (hl : lv_has ls 4 [(0, .ref (a 0)), (1, .int x1), (2, .int x2), (3, .int x3)]) : W p l e r_R_next s m args below meth c H locs 0 0 Q (F0 m 277 ls []) := by
  have hx := fx.1
  have hb := fx.2.1
  unfold f_R_next_277 at h
  refine lv_aload_n (pc := 277) hx hb d_R_next_277 rfl (lv_at hl 0 rfl) ?_
  refine gR_0_kind (pc := 278) fx hw kw_1104 d_R_next_278 ?_
  refine lv_iconst (pc := 281) (v := 2) hx hb d_R_next_281 (by decide) ?_
  refine lv_icmp_ne (pc := 282) (tgt := 343) hx hb d_R_next_282 (by decide) (fun c9 => ?_) (fun c9 => ?_)
  · replace h := h.2 c9
    exact c_R_next_343 hX fx HR K203 h hw (lv_sub hl [0, 2, 3] rfl)
  · replace h := h.1 c9
    refine lv_iload_n (pc := 285) hx hb d_R_next_285 rfl (lv_at hl 3 rfl) ?_
    refine lv_if_eq (pc := 286) (tgt := 305) hx hb d_R_next_286 (by decide) (fun c9 => ?_) (fun c9 => ?_)
    · replace h := h.1 c9
      refine lv_iconst (pc := 305) (v := 0) hx hb d_R_next_305 (by decide) ?_
      exact c_R_next_306 hX fx HR K203 h hw (lv_sub hl [0, 1, 2] rfl)
    · replace h := h.2 c9
      refine lv_iload_n (pc := 289) hx hb d_R_next_289 rfl (lv_at hl 1 rfl) ?_
      refine lv_bipush (pc := 290) (v := 48) hx hb d_R_next_290 (by decide) ?_
      refine lv_icmp_lt (pc := 292) (tgt := 305) hx hb d_R_next_292 (by decide) (fun c9 => ?_) (fun c9 => ?_)
      · replace h := h.1 c9
        refine lv_iconst (pc := 305) (v := 0) hx hb d_R_next_305 (by decide) ?_
        exact c_R_next_306 hX fx HR K203 h hw (lv_sub hl [0, 1, 2] rfl)
      · replace h := h.2 c9
        refine lv_iload_n (pc := 295) hx hb d_R_next_295 rfl (lv_at hl 1 rfl) ?_
        refine lv_bipush (pc := 296) (v := 55) hx hb d_R_next_296 (by decide) ?_
        refine lv_icmp_gt (pc := 298) (tgt := 305) hx hb d_R_next_298 (by decide) (fun c9 => ?_) (fun c9 => ?_)
        · replace h := h.1 c9
          refine lv_iconst (pc := 305) (v := 0) hx hb d_R_next_305 (by decide) ?_
          exact c_R_next_306 hX fx HR K203 h hw (lv_sub hl [0, 1, 2] rfl)
        · replace h := h.2 c9
          refine lv_iconst (pc := 301) (v := 1) hx hb d_R_next_301 (by decide) ?_
          refine lv_goto (pc := 302) (tgt := 306) hx hb d_R_next_302 (by decide) ?_
          exact c_R_next_306 hX fx HR K203 h hw (lv_sub hl [0, 1, 2] rfl)
set_option maxHeartbeats 4000000 in
set_option maxRecDepth 100000 in
theorem c_R_next_244 (hX : XT X) (fx : CallFix p m c b_R_next 4 s args GW RNR) {post : Int32 → SS → Prop} (HR : RetI p l e r_R_next s m args below meth c Q D vcl (tyl cA) (wR cA a) X A b_R_next .boolean (fun r σ => bz r ∧ post r σ)) {k203 : SS → Int32 → Int32 → Prop} (K203 : ∀ {σ : SS} {x2 : Int32} {x3 : Int32} {H : Heap} {locs : List Loc} {ls : Array Slot}, k203 σ x2 x3 → CX D vcl (tyl cA) (wR cA a σ) X A s H locs → lv_has ls 4 [(0, .ref (a 0)), (2, .int x2), (3, .int x3)] → W p l e r_R_next s m args below meth c H locs 0 0 Q (F0 m 203 ls [])) {σ : SS} {x2 : Int32} {x3 : Int32} {H : Heap} {locs : List Loc} {ls : Array Slot} (h : f_R_next_244 post k203 σ x2 x3) (hw : CX D vcl (tyl cA) (wR cA a σ) X A s H locs) (hl : lv_has ls 4 [(0, .ref (a 0)), (2, .int x2), (3, .int x3)]) : W p l e r_R_next s m args below meth c H locs 0 0 Q (F0 m 244 ls []) := by
  have hx := fx.1
  have hb := fx.2.1
  unfold f_R_next_244 at h
  refine lv_aload_n (pc := 244) hx hb d_R_next_244 rfl (lv_at hl 0 rfl) ?_
  refine gR_0_text (pc := 245) fx hw kw_1087 d_R_next_245 ?_
  refine lv_aload_n (pc := 248) hx hb d_R_next_248 rfl (lv_at hl 0 rfl) ?_
  refine gR_0_at (pc := 249) fx hw kw_1102 d_R_next_249 ?_
  refine alR_9 (pc := 252) fx hw h.1 d_R_next_252 ?_
  replace h := h.2
  refine lv_topi (fun x1_5 e9 => ?_)
  replace h := nm_u h e9
  clear e9
  refine lv_istore_n (pc := 253) (lv' := [(1, .int x1_5), (0, .ref (a 0)), (2, .int x2), (3, .int x3)]) hx hb d_R_next_253 rfl hl (by decide) rfl (fun ls hl => ?_)
  obtain ⟨x2_6, e9⟩ : ∃ z : Int32, z = x2 + 1 := ⟨_, rfl⟩
  replace h := nm_u h e9
  refine lv_iinc (pc := 254) (v := x2_6) (lv' := [(2, .int x2_6), (1, .int x1_5), (0, .ref (a 0)), (3, .int x3)]) hx hb d_R_next_254 hl (k := 2) rfl (by rw [e9]; rfl) (by decide) rfl (fun ls hl => ?_)
  clear e9
  refine lv_iload_n (pc := 257) hx hb d_R_next_257 rfl (lv_at hl 0 rfl) ?_
  refine lv_bipush (pc := 258) (v := 7) hx hb d_R_next_258 (by decide) ?_
  refine lv_icmp_ge (pc := 260) (tgt := 277) hx hb d_R_next_260 (by decide) (fun c9 => ?_) (fun c9 => ?_)
  · replace h := h.1 c9
    exact c_R_next_277 hX fx HR K203 h hw (lv_sub hl [2, 1, 0, 3] rfl)
  · replace h := h.2 c9
    refine lv_aload_n (pc := 263) hx hb d_R_next_263 rfl (lv_at hl 2 rfl) ?_
    refine lv_aload_n (pc := 264) hx hb d_R_next_264 rfl (lv_at hl 2 rfl) ?_
    refine gR_0_name (pc := 265) fx hw kw_1106 d_R_next_265 ?_
    refine lv_bipush (pc := 268) (v := 8) hx hb d_R_next_268 (by decide) ?_
    refine lv_lshl (pc := 270) hx hb d_R_next_270 rfl ?_
    refine lv_iload_n (pc := 271) hx hb d_R_next_271 rfl (lv_at hl 1 rfl) ?_
    refine lv_i2l (pc := 272) hx hb d_R_next_272 rfl ?_
    refine lv_lor (pc := 273) hx hb d_R_next_273 ?_
    refine pR_0_name (pc := 274) fx hw kw_1106 d_R_next_274 (fun σ_7 e9 H locs hw => ?_)
    replace h := nm_u h e9
    clear e9
    exact c_R_next_277 hX fx HR K203 h hw (lv_sub hl [2, 1, 0, 3] rfl)
set_option maxHeartbeats 4000000 in
set_option maxRecDepth 100000 in
theorem c_R_next_203 (hX : XT X) (fx : CallFix p m c b_R_next 4 s args GW RNR) {post : Int32 → SS → Prop} (HR : RetI p l e r_R_next s m args below meth c Q D vcl (tyl cA) (wR cA a) X A b_R_next .boolean (fun r σ => bz r ∧ post r σ)) : ∀ (n : Nat) {σ : SS} {x2 : Int32} {x3 : Int32} {H : Heap} {locs : List Loc} {ls : Array Slot}, f_R_next_203 post n σ x2 x3 → CX D vcl (tyl cA) (wR cA a σ) X A s H locs → lv_has ls 4 [(0, .ref (a 0)), (2, .int x2), (3, .int x3)] → W p l e r_R_next s m args below meth c H locs 0 0 Q (F0 m 203 ls []) := by
  have hx := fx.1
  have hb := fx.2.1
  intro n
  induction n with
  | zero => intro σ x2 x3 H locs ls h; exact h.elim
  | succ n ih =>
    intro σ x2 x3 H locs ls h hw hl
    have K203 := @ih
    unfold f_R_next_203 at h
    refine lv_aload_n (pc := 203) hx hb d_R_next_203 rfl (lv_at hl 0 rfl) ?_
    refine gR_0_at (pc := 204) fx hw kw_1102 d_R_next_204 ?_
    refine lv_aload_n (pc := 207) hx hb d_R_next_207 rfl (lv_at hl 0 rfl) ?_
    refine gR_0_lineEnd (pc := 208) fx hw kw_1103 d_R_next_208 ?_
    refine lv_icmp_ge (pc := 211) (tgt := 356) hx hb d_R_next_211 (by decide) (fun c9 => ?_) (fun c9 => ?_)
    · replace h := h.1 c9
      exact c_R_next_356 hX fx HR h hw (lv_sub hl [0, 1, 2] rfl)
    · replace h := h.2 c9
      refine lv_aload_n (pc := 214) hx hb d_R_next_214 rfl (lv_at hl 0 rfl) ?_
      refine gR_0_text (pc := 215) fx hw kw_1087 d_R_next_215 ?_
      refine lv_aload_n (pc := 218) hx hb d_R_next_218 rfl (lv_at hl 0 rfl) ?_
      refine gR_0_at (pc := 219) fx hw kw_1102 d_R_next_219 ?_
      refine alR_9 (pc := 222) fx hw h.1 d_R_next_222 ?_
      replace h := h.2
      refine cxSI (pc := 223) hX fx hw (c_R_isLetter hX h) cw_R_182 rfl ⟨Nat.le_of_ble_eq_true rfl, Nat.le_of_ble_eq_true rfl⟩ hl.1 (Nat.le_of_ble_eq_true rfl) d_R_next_223 ⟨Nat.zero_le _, Nat.zero_le _⟩ (fun r_9 σ_8 H locs hw h => ?_)
      have zr_9 := h.1
      replace h := h.2
      refine lv_if_ne (pc := 226) (tgt := 244) hx hb d_R_next_226 (by decide) (fun c9 => ?_) (fun c9 => ?_)
      · replace h := h.2 c9
        exact c_R_next_244 hX fx HR K203 h hw (lv_sub hl [0, 1, 2] rfl)
      · replace h := h.1 c9
        refine lv_aload_n (pc := 229) hx hb d_R_next_229 rfl (lv_at hl 0 rfl) ?_
        refine gR_0_text (pc := 230) fx hw kw_1087 d_R_next_230 ?_
        refine lv_aload_n (pc := 233) hx hb d_R_next_233 rfl (lv_at hl 0 rfl) ?_
        refine gR_0_at (pc := 234) fx hw kw_1102 d_R_next_234 ?_
        refine alR_9 (pc := 237) fx hw h.1 d_R_next_237 ?_
        replace h := h.2
        refine cxSI (pc := 238) hX fx hw (c_R_isDigit hX h) cw_R_185 rfl ⟨Nat.le_of_ble_eq_true rfl, Nat.le_of_ble_eq_true rfl⟩ hl.1 (Nat.le_of_ble_eq_true rfl) d_R_next_238 ⟨Nat.zero_le _, Nat.zero_le _⟩ (fun r_11 σ_10 H locs hw h => ?_)
        have zr_11 := h.1
        replace h := h.2
        refine lv_if_eq (pc := 241) (tgt := 356) hx hb d_R_next_241 (by decide) (fun c9 => ?_) (fun c9 => ?_)
        · replace h := h.1 c9
          exact c_R_next_356 hX fx HR h hw (lv_sub hl [0, 1, 2] rfl)
        · replace h := h.2 c9
          exact c_R_next_244 hX fx HR K203 h hw (lv_sub hl [0, 1, 2] rfl)
set_option maxHeartbeats 4000000 in
set_option maxRecDepth 100000 in
theorem c_R_next_186 (hX : XT X) (fx : CallFix p m c b_R_next 4 s args GW RNR) {post : Int32 → SS → Prop} (HR : RetI p l e r_R_next s m args below meth c Q D vcl (tyl cA) (wR cA a) X A b_R_next .boolean (fun r σ => bz r ∧ post r σ)) {σ : SS} {s0 : Int32} {H : Heap} {locs : List Loc} {ls : Array Slot} (h : f_R_next_186 post σ s0) (hw : CX D vcl (tyl cA) (wR cA a σ) X A s H locs) (hl : lv_has ls 4 [(0, .ref (a 0))]) : W p l e r_R_next s m args below meth c H locs 0 0 Q (F0 m 186 ls [.int s0, .ref (a 0)]) := by
  have hx := fx.1
  have hb := fx.2.1
  unfold f_R_next_186 at h
  refine pR_0_kind (pc := 186) fx hw kw_1104 d_R_next_186 (fun σ_12 e9 H locs hw => ?_)
  replace h := nm_u h e9
  clear e9
  refine lv_aload_n (pc := 189) hx hb d_R_next_189 rfl (lv_at hl 0 rfl) ?_
  refine lv_lconst (pc := 190) (v := 0) hx hb d_R_next_190 (by decide) ?_
  refine pR_0_name (pc := 191) fx hw kw_1106 d_R_next_191 (fun σ_13 e9 H locs hw => ?_)
  replace h := nm_u h e9
  clear e9
  refine lv_aload_n (pc := 194) hx hb d_R_next_194 rfl (lv_at hl 0 rfl) ?_
  refine lv_iconst (pc := 195) (v := 0) hx hb d_R_next_195 (by decide) ?_
  refine pR_0_value (pc := 196) fx hw kw_1105 d_R_next_196 (fun σ_14 e9 H locs hw => ?_)
  replace h := nm_u h e9
  clear e9
  refine lv_iconst (pc := 199) (v := 0) hx hb d_R_next_199 (by decide) ?_
  refine lv_istore_n (pc := 200) (lv' := [(2, .int 0), (0, .ref (a 0))]) hx hb d_R_next_200 rfl hl (by decide) rfl (fun ls hl => ?_)
  refine lv_iconst (pc := 201) (v := 1) hx hb d_R_next_201 (by decide) ?_
  refine lv_istore_n (pc := 202) (lv' := [(3, .int 1), (2, .int 0), (0, .ref (a 0))]) hx hb d_R_next_202 rfl hl (by decide) rfl (fun ls hl => ?_)
  obtain ⟨n9, h⟩ := h
  exact c_R_next_203 hX fx HR n9 h hw (lv_sub hl [2, 1, 0] rfl)
set_option maxHeartbeats 4000000 in
set_option maxRecDepth 100000 in
theorem c_R_next_173 (hX : XT X) (fx : CallFix p m c b_R_next 4 s args GW RNR) {post : Int32 → SS → Prop} (HR : RetI p l e r_R_next s m args below meth c Q D vcl (tyl cA) (wR cA a) X A b_R_next .boolean (fun r σ => bz r ∧ post r σ)) {σ : SS} {x1 : Int32} {H : Heap} {locs : List Loc} {ls : Array Slot} (h : f_R_next_173 post σ x1) (hw : CX D vcl (tyl cA) (wR cA a σ) X A s H locs) (hl : lv_has ls 4 [(0, .ref (a 0)), (1, .int x1)]) : W p l e r_R_next s m args below meth c H locs 0 0 Q (F0 m 173 ls []) := by
  have hx := fx.1
  have hb := fx.2.1
  unfold f_R_next_173 at h
  refine lv_aload_n (pc := 173) hx hb d_R_next_173 rfl (lv_at hl 0 rfl) ?_
  refine lv_iload_n (pc := 174) hx hb d_R_next_174 rfl (lv_at hl 1 rfl) ?_
  refine cxSI (pc := 175) hX fx hw (c_R_isLetter hX h) cw_R_182 rfl ⟨Nat.le_of_ble_eq_true rfl, Nat.le_of_ble_eq_true rfl⟩ hl.1 (Nat.le_of_ble_eq_true rfl) d_R_next_175 ⟨Nat.zero_le _, Nat.zero_le _⟩ (fun r_16 σ_15 H locs hw h => ?_)
  have zr_16 := h.1
  replace h := h.2
  refine lv_if_eq (pc := 178) (tgt := 185) hx hb d_R_next_178 (by decide) (fun c9 => ?_) (fun c9 => ?_)
  · replace h := h.1 c9
    refine lv_iconst (pc := 185) (v := 2) hx hb d_R_next_185 (by decide) ?_
    exact c_R_next_186 hX fx HR h hw (lv_sub hl [0] rfl)
  · replace h := h.2 c9
    refine lv_iconst (pc := 181) (v := 1) hx hb d_R_next_181 (by decide) ?_
    refine lv_goto (pc := 182) (tgt := 186) hx hb d_R_next_182 (by decide) ?_
    exact c_R_next_186 hX fx HR h hw (lv_sub hl [0] rfl)
set_option maxHeartbeats 4000000 in
set_option maxRecDepth 100000 in
theorem c_R_next_61 (hX : XT X) (fx : CallFix p m c b_R_next 4 s args GW RNR) {post : Int32 → SS → Prop} (HR : RetI p l e r_R_next s m args below meth c Q D vcl (tyl cA) (wR cA a) X A b_R_next .boolean (fun r σ => bz r ∧ post r σ)) {σ : SS} {H : Heap} {locs : List Loc} {ls : Array Slot} (h : f_R_next_61 post σ) (hw : CX D vcl (tyl cA) (wR cA a σ) X A s H locs) (hl : lv_has ls 4 [(0, .ref (a 0))]) : W p l e r_R_next s m args below meth c H locs 0 0 Q (F0 m 61 ls []) := by
  have hx := fx.1
  have hb := fx.2.1
  unfold f_R_next_61 at h
  refine lv_aload_n (pc := 61) hx hb d_R_next_61 rfl (lv_at hl 0 rfl) ?_
  refine lv_iconst (pc := 62) (v := 0) hx hb d_R_next_62 (by decide) ?_
  refine pR_0_kind (pc := 63) fx hw kw_1104 d_R_next_63 (fun σ_17 e9 H locs hw => ?_)
  replace h := nm_u h e9
  clear e9
  refine lv_aload_n (pc := 66) hx hb d_R_next_66 rfl (lv_at hl 0 rfl) ?_
  refine gR_0_at (pc := 67) fx hw kw_1102 d_R_next_67 ?_
  refine lv_aload_n (pc := 70) hx hb d_R_next_70 rfl (lv_at hl 0 rfl) ?_
  refine gR_0_lineEnd (pc := 71) fx hw kw_1103 d_R_next_71 ?_
  refine lv_icmp_ne (pc := 74) (tgt := 79) hx hb d_R_next_74 (by decide) (fun c9 => ?_) (fun c9 => ?_)
  · replace h := h.2 c9
    refine lv_aload_n (pc := 79) hx hb d_R_next_79 rfl (lv_at hl 0 rfl) ?_
    refine gR_0_text (pc := 80) fx hw kw_1087 d_R_next_80 ?_
    refine lv_aload_n (pc := 83) hx hb d_R_next_83 rfl (lv_at hl 0 rfl) ?_
    refine gR_0_at (pc := 84) fx hw kw_1102 d_R_next_84 ?_
    refine alR_9 (pc := 87) fx hw h.1 d_R_next_87 ?_
    replace h := h.2
    refine lv_topi (fun x1_18 e9 => ?_)
    replace h := nm_u h e9
    clear e9
    refine lv_istore_n (pc := 88) (lv' := [(1, .int x1_18), (0, .ref (a 0))]) hx hb d_R_next_88 rfl hl (by decide) rfl (fun ls hl => ?_)
    refine lv_iload_n (pc := 89) hx hb d_R_next_89 rfl (lv_at hl 0 rfl) ?_
    refine cxSI (pc := 90) hX fx hw (c_R_isLetter hX h) cw_R_182 rfl ⟨Nat.le_of_ble_eq_true rfl, Nat.le_of_ble_eq_true rfl⟩ hl.1 (Nat.le_of_ble_eq_true rfl) d_R_next_90 ⟨Nat.zero_le _, Nat.zero_le _⟩ (fun r_20 σ_19 H locs hw h => ?_)
    have zr_20 := h.1
    replace h := h.2
    refine lv_if_ne (pc := 93) (tgt := 173) hx hb d_R_next_93 (by decide) (fun c9 => ?_) (fun c9 => ?_)
    · replace h := h.2 c9
      exact c_R_next_173 hX fx HR h hw (lv_sub hl [1, 0] rfl)
    · replace h := h.1 c9
      refine lv_iload_n (pc := 96) hx hb d_R_next_96 rfl (lv_at hl 0 rfl) ?_
      refine cxSI (pc := 97) hX fx hw (c_R_isDigit hX h) cw_R_185 rfl ⟨Nat.le_of_ble_eq_true rfl, Nat.le_of_ble_eq_true rfl⟩ hl.1 (Nat.le_of_ble_eq_true rfl) d_R_next_97 ⟨Nat.zero_le _, Nat.zero_le _⟩ (fun r_22 σ_21 H locs hw h => ?_)
      have zr_22 := h.1
      replace h := h.2
      refine lv_if_ne (pc := 100) (tgt := 173) hx hb d_R_next_100 (by decide) (fun c9 => ?_) (fun c9 => ?_)
      · replace h := h.2 c9
        exact c_R_next_173 hX fx HR h hw (lv_sub hl [1, 0] rfl)
      · replace h := h.1 c9
        refine lv_aload_n (pc := 103) hx hb d_R_next_103 rfl (lv_at hl 1 rfl) ?_
        refine lv_iconst (pc := 104) (v := 3) hx hb d_R_next_104 (by decide) ?_
        refine pR_0_kind (pc := 105) fx hw kw_1104 d_R_next_105 (fun σ_23 e9 H locs hw => ?_)
        replace h := nm_u h e9
        clear e9
        refine lv_aload_n (pc := 108) hx hb d_R_next_108 rfl (lv_at hl 1 rfl) ?_
        refine lv_iload_n (pc := 109) hx hb d_R_next_109 rfl (lv_at hl 0 rfl) ?_
        refine pR_0_value (pc := 110) fx hw kw_1105 d_R_next_110 (fun σ_24 e9 H locs hw => ?_)
        replace h := nm_u h e9
        clear e9
        refine lv_aload_n (pc := 113) hx hb d_R_next_113 rfl (lv_at hl 1 rfl) ?_
        refine lv_dup (pc := 114) hx hb d_R_next_114 rfl ?_
        refine gR_0_at (pc := 115) fx hw kw_1102 d_R_next_115 ?_
        refine lv_iconst (pc := 118) (v := 1) hx hb d_R_next_118 (by decide) ?_
        refine lv_iadd (pc := 119) hx hb d_R_next_119 ?_
        refine pR_0_at (pc := 120) fx hw kw_1102 d_R_next_120 (fun σ_25 e9 H locs hw => ?_)
        replace h := nm_u h e9
        clear e9
        refine lv_iload_n (pc := 123) hx hb d_R_next_123 rfl (lv_at hl 0 rfl) ?_
        refine lv_bipush (pc := 124) (v := 43) hx hb d_R_next_124 (by decide) ?_
        refine lv_icmp_eq (pc := 126) (tgt := 167) hx hb d_R_next_126 (by decide) (fun c9 => ?_) (fun c9 => ?_)
        · replace h := h.1 c9
          refine lv_iconst (pc := 167) (v := 1) hx hb d_R_next_167 (by decide) ?_
          refine lv_goto (pc := 168) (tgt := 172) hx hb d_R_next_168 (by decide) ?_
          exact HR (bz_n bz_1) d_R_next_172 ⟨bz_1, h⟩ hw
        · replace h := h.2 c9
          refine lv_iload_n (pc := 129) hx hb d_R_next_129 rfl (lv_at hl 0 rfl) ?_
          refine lv_bipush (pc := 130) (v := 45) hx hb d_R_next_130 (by decide) ?_
          refine lv_icmp_eq (pc := 132) (tgt := 167) hx hb d_R_next_132 (by decide) (fun c9 => ?_) (fun c9 => ?_)
          · replace h := h.1 c9
            refine lv_iconst (pc := 167) (v := 1) hx hb d_R_next_167 (by decide) ?_
            refine lv_goto (pc := 168) (tgt := 172) hx hb d_R_next_168 (by decide) ?_
            exact HR (bz_n bz_1) d_R_next_172 ⟨bz_1, h⟩ hw
          · replace h := h.2 c9
            refine lv_iload_n (pc := 135) hx hb d_R_next_135 rfl (lv_at hl 0 rfl) ?_
            refine lv_bipush (pc := 136) (v := 44) hx hb d_R_next_136 (by decide) ?_
            refine lv_icmp_eq (pc := 138) (tgt := 167) hx hb d_R_next_138 (by decide) (fun c9 => ?_) (fun c9 => ?_)
            · replace h := h.1 c9
              refine lv_iconst (pc := 167) (v := 1) hx hb d_R_next_167 (by decide) ?_
              refine lv_goto (pc := 168) (tgt := 172) hx hb d_R_next_168 (by decide) ?_
              exact HR (bz_n bz_1) d_R_next_172 ⟨bz_1, h⟩ hw
            · replace h := h.2 c9
              refine lv_iload_n (pc := 141) hx hb d_R_next_141 rfl (lv_at hl 0 rfl) ?_
              refine lv_bipush (pc := 142) (v := 64) hx hb d_R_next_142 (by decide) ?_
              refine lv_icmp_eq (pc := 144) (tgt := 167) hx hb d_R_next_144 (by decide) (fun c9 => ?_) (fun c9 => ?_)
              · replace h := h.1 c9
                refine lv_iconst (pc := 167) (v := 1) hx hb d_R_next_167 (by decide) ?_
                refine lv_goto (pc := 168) (tgt := 172) hx hb d_R_next_168 (by decide) ?_
                exact HR (bz_n bz_1) d_R_next_172 ⟨bz_1, h⟩ hw
              · replace h := h.2 c9
                refine lv_iload_n (pc := 147) hx hb d_R_next_147 rfl (lv_at hl 0 rfl) ?_
                refine lv_bipush (pc := 148) (v := 35) hx hb d_R_next_148 (by decide) ?_
                refine lv_icmp_eq (pc := 150) (tgt := 167) hx hb d_R_next_150 (by decide) (fun c9 => ?_) (fun c9 => ?_)
                · replace h := h.1 c9
                  refine lv_iconst (pc := 167) (v := 1) hx hb d_R_next_167 (by decide) ?_
                  refine lv_goto (pc := 168) (tgt := 172) hx hb d_R_next_168 (by decide) ?_
                  exact HR (bz_n bz_1) d_R_next_172 ⟨bz_1, h⟩ hw
                · replace h := h.2 c9
                  refine lv_iload_n (pc := 153) hx hb d_R_next_153 rfl (lv_at hl 0 rfl) ?_
                  refine lv_bipush (pc := 154) (v := 58) hx hb d_R_next_154 (by decide) ?_
                  refine lv_icmp_eq (pc := 156) (tgt := 167) hx hb d_R_next_156 (by decide) (fun c9 => ?_) (fun c9 => ?_)
                  · replace h := h.1 c9
                    refine lv_iconst (pc := 167) (v := 1) hx hb d_R_next_167 (by decide) ?_
                    refine lv_goto (pc := 168) (tgt := 172) hx hb d_R_next_168 (by decide) ?_
                    exact HR (bz_n bz_1) d_R_next_172 ⟨bz_1, h⟩ hw
                  · replace h := h.2 c9
                    refine lv_aload_n (pc := 159) hx hb d_R_next_159 rfl (lv_at hl 1 rfl) ?_
                    refine lv_iconst (pc := 160) (v := 1) hx hb d_R_next_160 (by decide) ?_
                    refine cxI (pc := 161) hX fx hw (c_R_stop hX h) cw_R_191 (rcR_0 hw) rfl ⟨Nat.le_of_ble_eq_true rfl, Nat.le_of_ble_eq_true rfl⟩ hl.1 (Nat.le_of_ble_eq_true rfl) d_R_next_161 ⟨Nat.zero_le _, Nat.zero_le _⟩ (fun r_27 σ_26 H locs hw h => ?_)
                    have zr_27 := h.1
                    replace h := h.2
                    refine lv_if_eq (pc := 164) (tgt := 171) hx hb d_R_next_164 (by decide) (fun c9 => ?_) (fun c9 => ?_)
                    · replace h := h.1 c9
                      refine lv_iconst (pc := 171) (v := 0) hx hb d_R_next_171 (by decide) ?_
                      exact HR (bz_n bz_0) d_R_next_172 ⟨bz_0, h⟩ hw
                    · replace h := h.2 c9
                      refine lv_iconst (pc := 167) (v := 1) hx hb d_R_next_167 (by decide) ?_
                      refine lv_goto (pc := 168) (tgt := 172) hx hb d_R_next_168 (by decide) ?_
                      exact HR (bz_n bz_1) d_R_next_172 ⟨bz_1, h⟩ hw
  · replace h := h.1 c9
    refine lv_iconst (pc := 77) (v := 1) hx hb d_R_next_77 (by decide) ?_
    exact HR (bz_n bz_1) d_R_next_78 ⟨bz_1, h⟩ hw
set_option maxHeartbeats 4000000 in
set_option maxRecDepth 100000 in
theorem c_R_next_48 (hX : XT X) (fx : CallFix p m c b_R_next 4 s args GW RNR) {post : Int32 → SS → Prop} (HR : RetI p l e r_R_next s m args below meth c Q D vcl (tyl cA) (wR cA a) X A b_R_next .boolean (fun r σ => bz r ∧ post r σ)) {k9 : SS → Prop} (K9 : ∀ {σ : SS} {H : Heap} {locs : List Loc} {ls : Array Slot}, k9 σ → CX D vcl (tyl cA) (wR cA a σ) X A s H locs → lv_has ls 4 [(0, .ref (a 0))] → W p l e r_R_next s m args below meth c H locs 0 0 Q (F0 m 9 ls [])) {σ : SS} {H : Heap} {locs : List Loc} {ls : Array Slot} (h : f_R_next_48 post k9 σ) (hw : CX D vcl (tyl cA) (wR cA a σ) X A s H locs) (hl : lv_has ls 4 [(0, .ref (a 0))]) : W p l e r_R_next s m args below meth c H locs 0 0 Q (F0 m 48 ls []) := by
  have hx := fx.1
  have hb := fx.2.1
  unfold f_R_next_48 at h
  refine lv_aload_n (pc := 48) hx hb d_R_next_48 rfl (lv_at hl 0 rfl) ?_
  refine lv_dup (pc := 49) hx hb d_R_next_49 rfl ?_
  refine gR_0_at (pc := 50) fx hw kw_1102 d_R_next_50 ?_
  refine lv_iconst (pc := 53) (v := 1) hx hb d_R_next_53 (by decide) ?_
  refine lv_iadd (pc := 54) hx hb d_R_next_54 ?_
  refine pR_0_at (pc := 55) fx hw kw_1102 d_R_next_55 (fun σ_28 e9 H locs hw => ?_)
  replace h := nm_u h e9
  clear e9
  refine lv_goto (pc := 58) (tgt := 9) hx hb d_R_next_58 (by decide) ?_
  exact K9 h hw (lv_sub hl [0] rfl)
set_option maxHeartbeats 4000000 in
set_option maxRecDepth 100000 in
theorem c_R_next_9 (hX : XT X) (fx : CallFix p m c b_R_next 4 s args GW RNR) {post : Int32 → SS → Prop} (HR : RetI p l e r_R_next s m args below meth c Q D vcl (tyl cA) (wR cA a) X A b_R_next .boolean (fun r σ => bz r ∧ post r σ)) : ∀ (n : Nat) {σ : SS} {H : Heap} {locs : List Loc} {ls : Array Slot}, f_R_next_9 post n σ → CX D vcl (tyl cA) (wR cA a σ) X A s H locs → lv_has ls 4 [(0, .ref (a 0))] → W p l e r_R_next s m args below meth c H locs 0 0 Q (F0 m 9 ls []) := by
  have hx := fx.1
  have hb := fx.2.1
  intro n
  induction n with
  | zero => intro σ H locs ls h; exact h.elim
  | succ n ih =>
    intro σ H locs ls h hw hl
    have K9 := @ih
    unfold f_R_next_9 at h
    refine lv_aload_n (pc := 9) hx hb d_R_next_9 rfl (lv_at hl 0 rfl) ?_
    refine gR_0_at (pc := 10) fx hw kw_1102 d_R_next_10 ?_
    refine lv_aload_n (pc := 13) hx hb d_R_next_13 rfl (lv_at hl 0 rfl) ?_
    refine gR_0_lineEnd (pc := 14) fx hw kw_1103 d_R_next_14 ?_
    refine lv_icmp_ge (pc := 17) (tgt := 61) hx hb d_R_next_17 (by decide) (fun c9 => ?_) (fun c9 => ?_)
    · replace h := h.1 c9
      exact c_R_next_61 hX fx HR h hw (lv_sub hl [0] rfl)
    · replace h := h.2 c9
      refine lv_aload_n (pc := 20) hx hb d_R_next_20 rfl (lv_at hl 0 rfl) ?_
      refine gR_0_text (pc := 21) fx hw kw_1087 d_R_next_21 ?_
      refine lv_aload_n (pc := 24) hx hb d_R_next_24 rfl (lv_at hl 0 rfl) ?_
      refine gR_0_at (pc := 25) fx hw kw_1102 d_R_next_25 ?_
      refine alR_9 (pc := 28) fx hw h.1 d_R_next_28 ?_
      replace h := h.2
      refine lv_bipush (pc := 29) (v := 32) hx hb d_R_next_29 (by decide) ?_
      refine lv_icmp_eq (pc := 31) (tgt := 48) hx hb d_R_next_31 (by decide) (fun c9 => ?_) (fun c9 => ?_)
      · replace h := h.1 c9
        exact c_R_next_48 hX fx HR K9 h hw (lv_sub hl [0] rfl)
      · replace h := h.2 c9
        refine lv_aload_n (pc := 34) hx hb d_R_next_34 rfl (lv_at hl 0 rfl) ?_
        refine gR_0_text (pc := 35) fx hw kw_1087 d_R_next_35 ?_
        refine lv_aload_n (pc := 38) hx hb d_R_next_38 rfl (lv_at hl 0 rfl) ?_
        refine gR_0_at (pc := 39) fx hw kw_1102 d_R_next_39 ?_
        refine alR_9 (pc := 42) fx hw h.1 d_R_next_42 ?_
        replace h := h.2
        refine lv_bipush (pc := 43) (v := 9) hx hb d_R_next_43 (by decide) ?_
        refine lv_icmp_ne (pc := 45) (tgt := 61) hx hb d_R_next_45 (by decide) (fun c9 => ?_) (fun c9 => ?_)
        · replace h := h.2 c9
          exact c_R_next_61 hX fx HR h hw (lv_sub hl [0] rfl)
        · replace h := h.1 c9
          exact c_R_next_48 hX fx HR K9 h hw (lv_sub hl [0] rfl)
set_option maxHeartbeats 4000000 in
set_option maxRecDepth 100000 in
theorem e_R_next (hX : XT X) (fx : CallFix p m c b_R_next 4 s args GW RNR) {post : Int32 → SS → Prop} (HR : RetI p l e r_R_next s m args below meth c Q D vcl (tyl cA) (wR cA a) X A b_R_next .boolean (fun r σ => bz r ∧ post r σ)) {σ : SS} {H : Heap} {locs : List Loc} {ls : Array Slot} (h : f_R_next post σ) (hw : CX D vcl (tyl cA) (wR cA a σ) X A s H locs) (hl : lv_has ls 4 [(0, .ref (a 0))]) : W p l e r_R_next s m args below meth c H locs 0 0 Q (F0 m 0 ls []) := by
  have hx := fx.1
  have hb := fx.2.1
  unfold f_R_next at h
  refine lv_aload_n (pc := 0) hx hb d_R_next_0 rfl (lv_at hl 0 rfl) ?_
  refine gR_0_fault (pc := 1) fx hw kw_1089 d_R_next_1 ?_
  refine lv_if_eq (pc := 4) (tgt := 9) hx hb d_R_next_4 (by decide) (fun c9 => ?_) (fun c9 => ?_)
  · replace h := h.1 c9
    obtain ⟨n9, h⟩ := h
    exact c_R_next_9 hX fx HR n9 h hw (lv_sub hl [0] rfl)
  · replace h := h.2 c9
    refine lv_iconst (pc := 7) (v := 0) hx hb d_R_next_7 (by decide) ?_
    exact HR (bz_n bz_0) d_R_next_8 ⟨bz_0, h⟩ hw
end
theorem c_R_next {l : Launch} {D : va_G} {cA : Nat → ClassId} {a : Nat → Nat} {X : (Nat → Prop) → State → Prop} (hX : XT X) {σ : SS} {post : Int32 → SS → Prop} (h : f_R_next post σ) : mI l y_R_next b_R_next 4 (some .boolean) 1 21 D vcl (tyl cA) (wR cA a) X σ [.ref (a 0)] (fun r σ => bz r ∧ post r σ) := met_I (by decide) (Nat.le_of_ble_eq_true rfl) (fun p e s m args below meth c A Q fx HR H ls hw hl => e_R_next hX fx HR h hw hl)
abbrev r_R_isSign : Room := { frames := 0, cells := 0, slots := 0, locals := 0 }
def f_R_isSign (post : Int32 → SS → Prop) (σ : SS) (x1 : Int32) : Prop := br ((σ.1 22) = 3) (br ((σ.1 23) = x1) (post 1 σ) (post 0 σ)) (post 0 σ)
section
variable {p : Program} {l : Launch} {e : Env} {s : State} {m : MethodId} {args : Array Value} {below : List Frame} {meth : Method} {c : Code} {Q : State → Prop} {D : va_G} {cA : Nat → ClassId} {a : Nat → Nat} {X : (Nat → Prop) → State → Prop} {A : Nat → Prop}
set_option maxHeartbeats 4000000 in
set_option maxRecDepth 100000 in
theorem e_R_isSign (hX : XT X) (fx : CallFix p m c b_R_isSign 2 s args GW RNR) {post : Int32 → SS → Prop} (HR : RetI p l e r_R_isSign s m args below meth c Q D vcl (tyl cA) (wR cA a) X A b_R_isSign .boolean (fun r σ => bz r ∧ post r σ)) {σ : SS} {x1 : Int32} {H : Heap} {locs : List Loc} {ls : Array Slot} (h : f_R_isSign post σ x1) (hw : CX D vcl (tyl cA) (wR cA a σ) X A s H locs) (hl : lv_has ls 2 [(0, .ref (a 0)), (1, .int x1)]) : W p l e r_R_isSign s m args below meth c H locs 0 0 Q (F0 m 0 ls []) := by
  have hx := fx.1
  have hb := fx.2.1
  unfold f_R_isSign at h
  refine lv_aload_n (pc := 0) hx hb d_R_isSign_0 rfl (lv_at hl 0 rfl) ?_
  refine gR_0_kind (pc := 1) fx hw kw_1104 d_R_isSign_1 ?_
  refine lv_iconst (pc := 4) (v := 3) hx hb d_R_isSign_4 (by decide) ?_
  refine lv_icmp_ne (pc := 5) (tgt := 20) hx hb d_R_isSign_5 (by decide) (fun c9 => ?_) (fun c9 => ?_)
  · replace h := h.2 c9
    refine lv_iconst (pc := 20) (v := 0) hx hb d_R_isSign_20 (by decide) ?_
    exact HR (bz_n bz_0) d_R_isSign_21 ⟨bz_0, h⟩ hw
  · replace h := h.1 c9
    refine lv_aload_n (pc := 8) hx hb d_R_isSign_8 rfl (lv_at hl 0 rfl) ?_
    refine gR_0_value (pc := 9) fx hw kw_1105 d_R_isSign_9 ?_
    refine lv_iload_n (pc := 12) hx hb d_R_isSign_12 rfl (lv_at hl 1 rfl) ?_
    refine lv_icmp_ne (pc := 13) (tgt := 20) hx hb d_R_isSign_13 (by decide) (fun c9 => ?_) (fun c9 => ?_)
    · replace h := h.2 c9
      refine lv_iconst (pc := 20) (v := 0) hx hb d_R_isSign_20 (by decide) ?_
      exact HR (bz_n bz_0) d_R_isSign_21 ⟨bz_0, h⟩ hw
    · replace h := h.1 c9
      refine lv_iconst (pc := 16) (v := 1) hx hb d_R_isSign_16 (by decide) ?_
      refine lv_goto (pc := 17) (tgt := 21) hx hb d_R_isSign_17 (by decide) ?_
      exact HR (bz_n bz_1) d_R_isSign_21 ⟨bz_1, h⟩ hw
end
theorem c_R_isSign {l : Launch} {D : va_G} {cA : Nat → ClassId} {a : Nat → Nat} {X : (Nat → Prop) → State → Prop} (hX : XT X) {σ : SS} {post : Int32 → SS → Prop} {x1 : Int32} (h : f_R_isSign post σ x1) : mI l y_R_isSign b_R_isSign 2 (some .boolean) 0 0 D vcl (tyl cA) (wR cA a) X σ [.ref (a 0), .int x1] (fun r σ => bz r ∧ post r σ) := met_I (by decide) (Nat.le_of_ble_eq_true rfl) (fun p e s m args below meth c A Q fx HR H ls hw hl => e_R_isSign hX fx HR h hw hl)
abbrev r_R_sizeOf : Room := { frames := 0, cells := 0, slots := 0, locals := 0 }
def f_R_sizeOf_4 (post : Int32 → SS → Prop) : Nat → SS → Int32 → Int64 → Prop
  | 0, _, _, _ => False
  | n + 1, σ, x2, x3 => br ((lg_cmp x3 0) ≤ 0) (post x2 σ) (nm (x2 + 1) fun x2_1 => nm (x3 >>> ((8 : Int32).toInt64 &&& 63)) fun x3_2 => f_R_sizeOf_4 post n σ x2_1 x3_2)
def f_R_sizeOf (post : Int32 → SS → Prop) (σ : SS) (x0 : Int64) : Prop := ∃ n9, f_R_sizeOf_4 post n9 σ 0 x0
section
variable {p : Program} {l : Launch} {e : Env} {s : State} {m : MethodId} {args : Array Value} {below : List Frame} {meth : Method} {c : Code} {Q : State → Prop} {D : va_G} {cA : Nat → ClassId} {a : Nat → Nat} {X : (Nat → Prop) → State → Prop} {A : Nat → Prop}
set_option maxHeartbeats 4000000 in
set_option maxRecDepth 100000 in
theorem c_R_sizeOf_4 (hX : XT X) (fx : CallFix p m c b_R_sizeOf 5 s args GW RNR) {post : Int32 → SS → Prop} (HR : RetI p l e r_R_sizeOf s m args below meth c Q D vcl (tyl cA) (wR cA a) X A b_R_sizeOf .int post) : ∀ (n : Nat) {σ : SS} {x2 : Int32} {x3 : Int64} {H : Heap} {locs : List Loc} {ls : Array Slot}, f_R_sizeOf_4 post n σ x2 x3 → CX D vcl (tyl cA) (wR cA a σ) X A s H locs → lv_has ls 5 [(2, .int x2), (3, .long x3)] → W p l e r_R_sizeOf s m args below meth c H locs 0 0 Q (F0 m 4 ls []) := by
  have hx := fx.1
  have hb := fx.2.1
  intro n
  induction n with
  | zero => intro σ x2 x3 H locs ls h; exact h.elim
  | succ n ih =>
    intro σ x2 x3 H locs ls h hw hl
    have K4 := @ih
    unfold f_R_sizeOf_4 at h
    refine lv_lload_n (pc := 4) hx hb d_R_sizeOf_4 rfl (lv_at hl 1 rfl) ?_
    refine lv_lconst (pc := 5) (v := 0) hx hb d_R_sizeOf_5 (by decide) ?_
    refine W.lcmp (pc := 6) hx hb d_R_sizeOf_6 ?_
    refine lv_if_le (pc := 7) (tgt := 21) hx hb d_R_sizeOf_7 (by decide) (fun c9 => ?_) (fun c9 => ?_)
    · replace h := h.1 c9
      refine lv_iload_n (pc := 21) hx hb d_R_sizeOf_21 rfl (lv_at hl 0 rfl) ?_
      exact HR rfl d_R_sizeOf_22 h hw
    · replace h := h.2 c9
      obtain ⟨x2_1, e9⟩ : ∃ z : Int32, z = x2 + 1 := ⟨_, rfl⟩
      replace h := nm_u h e9
      refine lv_iinc (pc := 10) (v := x2_1) (lv' := [(2, .int x2_1), (3, .long x3)]) hx hb d_R_sizeOf_10 hl (k := 0) rfl (by rw [e9]; rfl) (by decide) rfl (fun ls hl => ?_)
      clear e9
      refine lv_lload_n (pc := 13) hx hb d_R_sizeOf_13 rfl (lv_at hl 1 rfl) ?_
      refine lv_bipush (pc := 14) (v := 8) hx hb d_R_sizeOf_14 (by decide) ?_
      refine lv_lshr (pc := 16) hx hb d_R_sizeOf_16 rfl ?_
      refine lv_topl (fun x3_2 e9 => ?_)
      replace h := nm_u h e9
      clear e9
      refine lv_lstore_n (pc := 17) (lv' := [(3, .long x3_2), (2, .int x2_1)]) hx hb d_R_sizeOf_17 rfl hl (by decide) rfl (fun ls hl => ?_)
      refine lv_goto (pc := 18) (tgt := 4) hx hb d_R_sizeOf_18 (by decide) ?_
      exact K4 h hw (lv_sub hl [1, 0] rfl)
set_option maxHeartbeats 4000000 in
set_option maxRecDepth 100000 in
theorem e_R_sizeOf (hX : XT X) (fx : CallFix p m c b_R_sizeOf 5 s args GW RNR) {post : Int32 → SS → Prop} (HR : RetI p l e r_R_sizeOf s m args below meth c Q D vcl (tyl cA) (wR cA a) X A b_R_sizeOf .int post) {σ : SS} {x0 : Int64} {H : Heap} {locs : List Loc} {ls : Array Slot} (h : f_R_sizeOf post σ x0) (hw : CX D vcl (tyl cA) (wR cA a σ) X A s H locs) (hl : lv_has ls 5 [(0, .long x0)]) : W p l e r_R_sizeOf s m args below meth c H locs 0 0 Q (F0 m 0 ls []) := by
  have hx := fx.1
  have hb := fx.2.1
  unfold f_R_sizeOf at h
  refine lv_iconst (pc := 0) (v := 0) hx hb d_R_sizeOf_0 (by decide) ?_
  refine lv_istore_n (pc := 1) (lv' := [(2, .int 0), (0, .long x0)]) hx hb d_R_sizeOf_1 rfl hl (by decide) rfl (fun ls hl => ?_)
  refine lv_lload_n (pc := 2) hx hb d_R_sizeOf_2 rfl (lv_at hl 1 rfl) ?_
  refine lv_lstore_n (pc := 3) (lv' := [(3, .long x0), (2, .int 0), (0, .long x0)]) hx hb d_R_sizeOf_3 rfl hl (by decide) rfl (fun ls hl => ?_)
  obtain ⟨n9, h⟩ := h
  exact c_R_sizeOf_4 hX fx HR n9 h hw (lv_sub hl [1, 0] rfl)
end
theorem c_R_sizeOf {l : Launch} {D : va_G} {cA : Nat → ClassId} {a : Nat → Nat} {X : (Nat → Prop) → State → Prop} (hX : XT X) {σ : SS} {post : Int32 → SS → Prop} {x0 : Int64} (h : f_R_sizeOf post σ x0) : mI l y_R_sizeOf b_R_sizeOf 5 (some .int) 0 0 D vcl (tyl cA) (wR cA a) X σ [.long x0] post := met_I (by decide) (Nat.le_of_ble_eq_true rfl) (fun p e s m args below meth c A Q fx HR H ls hw hl => e_R_sizeOf hX fx HR h hw hl)
abbrev r_R_front : Room := { frames := 1, cells := 0, slots := 0, locals := 24 }
def f_R_front (post : Int64 → SS → Prop) (σ : SS) (x0 : Int64) (x2 : Int32) : Prop := f_R_sizeOf (fun r_2 σ_1 => post (x0 >>> ((8 * (r_2 - x2)).toInt64 &&& 63)) σ_1) σ x0
section
variable {p : Program} {l : Launch} {e : Env} {s : State} {m : MethodId} {args : Array Value} {below : List Frame} {meth : Method} {c : Code} {Q : State → Prop} {D : va_G} {cA : Nat → ClassId} {a : Nat → Nat} {X : (Nat → Prop) → State → Prop} {A : Nat → Prop}
set_option maxHeartbeats 4000000 in
set_option maxRecDepth 100000 in
theorem e_R_front (hX : XT X) (fx : CallFix p m c b_R_front 3 s args GW RNR) {post : Int64 → SS → Prop} (HR : RetJ p l e r_R_front s m args below meth c Q D vcl (tyl cA) (wR cA a) X A b_R_front post) {σ : SS} {x0 : Int64} {x2 : Int32} {H : Heap} {locs : List Loc} {ls : Array Slot} (h : f_R_front post σ x0 x2) (hw : CX D vcl (tyl cA) (wR cA a σ) X A s H locs) (hl : lv_has ls 3 [(0, .long x0), (2, .int x2)]) : W p l e r_R_front s m args below meth c H locs 0 0 Q (F0 m 0 ls []) := by
  have hx := fx.1
  have hb := fx.2.1
  unfold f_R_front at h
  refine lv_lload_n (pc := 0) hx hb d_R_front_0 rfl (lv_at hl 0 rfl) ?_
  refine lv_bipush (pc := 1) (v := 8) hx hb d_R_front_1 (by decide) ?_
  refine lv_lload_n (pc := 3) hx hb d_R_front_3 rfl (lv_at hl 0 rfl) ?_
  refine cxSI (pc := 4) hX fx hw (c_R_sizeOf hX h) cw_R_198 rfl ⟨Nat.le_of_ble_eq_true rfl, Nat.le_of_ble_eq_true rfl⟩ hl.1 (Nat.le_of_ble_eq_true rfl) d_R_front_4 ⟨Nat.zero_le _, Nat.zero_le _⟩ (fun r_2 σ_1 H locs hw h => ?_)
  refine lv_iload_n (pc := 7) hx hb d_R_front_7 rfl (lv_at hl 1 rfl) ?_
  refine lv_isub (pc := 8) hx hb d_R_front_8 ?_
  refine lv_imul (pc := 9) hx hb d_R_front_9 ?_
  refine lv_lshr (pc := 10) hx hb d_R_front_10 rfl ?_
  exact HR d_R_front_11 h hw
end
theorem c_R_front {l : Launch} {D : va_G} {cA : Nat → ClassId} {a : Nat → Nat} {X : (Nat → Prop) → State → Prop} (hX : XT X) {σ : SS} {post : Int64 → SS → Prop} {x0 : Int64} {x2 : Int32} (h : f_R_front post σ x0 x2) : mJ l y_R_front b_R_front 3 (some .long) 1 24 D vcl (tyl cA) (wR cA a) X σ [.long x0, .int x2] post := met_J (by decide) (Nat.le_of_ble_eq_true rfl) (fun p e s m args below meth c A Q fx HR H ls hw hl => e_R_front hX fx HR h hw hl)
abbrev r_R_letter : Room := { frames := 1, cells := 0, slots := 0, locals := 24 }
def f_R_letter (post : Int32 → SS → Prop) (σ : SS) (x0 : Int64) (x2 : Int32) : Prop := f_R_sizeOf (fun r_2 σ_1 => post (((x0 >>> ((8 * ((r_2 - 1) - x2)).toInt64 &&& 63)).toInt32) &&& 255) σ_1) σ x0
section
variable {p : Program} {l : Launch} {e : Env} {s : State} {m : MethodId} {args : Array Value} {below : List Frame} {meth : Method} {c : Code} {Q : State → Prop} {D : va_G} {cA : Nat → ClassId} {a : Nat → Nat} {X : (Nat → Prop) → State → Prop} {A : Nat → Prop}
set_option maxHeartbeats 4000000 in
set_option maxRecDepth 100000 in
theorem e_R_letter (hX : XT X) (fx : CallFix p m c b_R_letter 3 s args GW RNR) {post : Int32 → SS → Prop} (HR : RetI p l e r_R_letter s m args below meth c Q D vcl (tyl cA) (wR cA a) X A b_R_letter .int post) {σ : SS} {x0 : Int64} {x2 : Int32} {H : Heap} {locs : List Loc} {ls : Array Slot} (h : f_R_letter post σ x0 x2) (hw : CX D vcl (tyl cA) (wR cA a σ) X A s H locs) (hl : lv_has ls 3 [(0, .long x0), (2, .int x2)]) : W p l e r_R_letter s m args below meth c H locs 0 0 Q (F0 m 0 ls []) := by
  have hx := fx.1
  have hb := fx.2.1
  unfold f_R_letter at h
  refine lv_lload_n (pc := 0) hx hb d_R_letter_0 rfl (lv_at hl 0 rfl) ?_
  refine lv_bipush (pc := 1) (v := 8) hx hb d_R_letter_1 (by decide) ?_
  refine lv_lload_n (pc := 3) hx hb d_R_letter_3 rfl (lv_at hl 0 rfl) ?_
  refine cxSI (pc := 4) hX fx hw (c_R_sizeOf hX h) cw_R_198 rfl ⟨Nat.le_of_ble_eq_true rfl, Nat.le_of_ble_eq_true rfl⟩ hl.1 (Nat.le_of_ble_eq_true rfl) d_R_letter_4 ⟨Nat.zero_le _, Nat.zero_le _⟩ (fun r_2 σ_1 H locs hw h => ?_)
  refine lv_iconst (pc := 7) (v := 1) hx hb d_R_letter_7 (by decide) ?_
  refine lv_isub (pc := 8) hx hb d_R_letter_8 ?_
  refine lv_iload_n (pc := 9) hx hb d_R_letter_9 rfl (lv_at hl 1 rfl) ?_
  refine lv_isub (pc := 10) hx hb d_R_letter_10 ?_
  refine lv_imul (pc := 11) hx hb d_R_letter_11 ?_
  refine lv_lshr (pc := 12) hx hb d_R_letter_12 rfl ?_
  refine lv_l2i (pc := 13) hx hb d_R_letter_13 rfl ?_
  refine lv_sipush (pc := 14) (v := 255) hx hb d_R_letter_14 (by decide) ?_
  refine lv_iand (pc := 17) hx hb d_R_letter_17 ?_
  exact HR rfl d_R_letter_18 h hw
end
theorem c_R_letter {l : Launch} {D : va_G} {cA : Nat → ClassId} {a : Nat → Nat} {X : (Nat → Prop) → State → Prop} (hX : XT X) {σ : SS} {post : Int32 → SS → Prop} {x0 : Int64} {x2 : Int32} (h : f_R_letter post σ x0 x2) : mI l y_R_letter b_R_letter 3 (some .int) 1 24 D vcl (tyl cA) (wR cA a) X σ [.long x0, .int x2] post := met_I (by decide) (Nat.le_of_ble_eq_true rfl) (fun p e s m args below meth c A Q fx HR H ls hw hl => e_R_letter hX fx HR h hw hl)
abbrev r_R_among : Room := { frames := 0, cells := 0, slots := 0, locals := 0 }
def f_R_among (post : Int32 → SS → Prop) (σ : SS) (x0 : Int64) (x2 : Int64) (x4 : Int64) (x6 : Int64) (x8 : Int64) : Prop := br ((lg_cmp x0 x2) = 0) (post 0 σ) (br ((lg_cmp x0 x4) = 0) (post 1 σ) (br ((lg_cmp x0 x6) = 0) (post 2 σ) (br ((lg_cmp x0 x8) = 0) (post 3 σ) (post (-1) σ))))
section
variable {p : Program} {l : Launch} {e : Env} {s : State} {m : MethodId} {args : Array Value} {below : List Frame} {meth : Method} {c : Code} {Q : State → Prop} {D : va_G} {cA : Nat → ClassId} {a : Nat → Nat} {X : (Nat → Prop) → State → Prop} {A : Nat → Prop}
set_option maxHeartbeats 4000000 in
set_option maxRecDepth 100000 in
theorem e_R_among (hX : XT X) (fx : CallFix p m c b_R_among 10 s args GW RNR) {post : Int32 → SS → Prop} (HR : RetI p l e r_R_among s m args below meth c Q D vcl (tyl cA) (wR cA a) X A b_R_among .int post) {σ : SS} {x0 : Int64} {x2 : Int64} {x4 : Int64} {x6 : Int64} {x8 : Int64} {H : Heap} {locs : List Loc} {ls : Array Slot} (h : f_R_among post σ x0 x2 x4 x6 x8) (hw : CX D vcl (tyl cA) (wR cA a σ) X A s H locs) (hl : lv_has ls 10 [(0, .long x0), (2, .long x2), (4, .long x4), (6, .long x6), (8, .long x8)]) : W p l e r_R_among s m args below meth c H locs 0 0 Q (F0 m 0 ls []) := by
  have hx := fx.1
  have hb := fx.2.1
  unfold f_R_among at h
  refine lv_lload_n (pc := 0) hx hb d_R_among_0 rfl (lv_at hl 0 rfl) ?_
  refine lv_lload_n (pc := 1) hx hb d_R_among_1 rfl (lv_at hl 1 rfl) ?_
  refine W.lcmp (pc := 2) hx hb d_R_among_2 ?_
  refine lv_if_ne (pc := 3) (tgt := 10) hx hb d_R_among_3 (by decide) (fun c9 => ?_) (fun c9 => ?_)
  · replace h := h.2 c9
    refine lv_lload_n (pc := 10) hx hb d_R_among_10 rfl (lv_at hl 0 rfl) ?_
    refine lv_lload (pc := 11) hx hb d_R_among_11 (lv_at hl 2 rfl) ?_
    refine W.lcmp (pc := 13) hx hb d_R_among_13 ?_
    refine lv_if_ne (pc := 14) (tgt := 21) hx hb d_R_among_14 (by decide) (fun c9 => ?_) (fun c9 => ?_)
    · replace h := h.2 c9
      refine lv_lload_n (pc := 21) hx hb d_R_among_21 rfl (lv_at hl 0 rfl) ?_
      refine lv_lload (pc := 22) hx hb d_R_among_22 (lv_at hl 3 rfl) ?_
      refine W.lcmp (pc := 24) hx hb d_R_among_24 ?_
      refine lv_if_ne (pc := 25) (tgt := 32) hx hb d_R_among_25 (by decide) (fun c9 => ?_) (fun c9 => ?_)
      · replace h := h.2 c9
        refine lv_lload_n (pc := 32) hx hb d_R_among_32 rfl (lv_at hl 0 rfl) ?_
        refine lv_lload (pc := 33) hx hb d_R_among_33 (lv_at hl 4 rfl) ?_
        refine W.lcmp (pc := 35) hx hb d_R_among_35 ?_
        refine lv_if_ne (pc := 36) (tgt := 43) hx hb d_R_among_36 (by decide) (fun c9 => ?_) (fun c9 => ?_)
        · replace h := h.2 c9
          refine lv_iconst (pc := 43) (v := (-1)) hx hb d_R_among_43 (by decide) ?_
          exact HR rfl d_R_among_44 h hw
        · replace h := h.1 c9
          refine lv_iconst (pc := 39) (v := 3) hx hb d_R_among_39 (by decide) ?_
          refine lv_goto (pc := 40) (tgt := 44) hx hb d_R_among_40 (by decide) ?_
          exact HR rfl d_R_among_44 h hw
      · replace h := h.1 c9
        refine lv_iconst (pc := 28) (v := 2) hx hb d_R_among_28 (by decide) ?_
        refine lv_goto (pc := 29) (tgt := 44) hx hb d_R_among_29 (by decide) ?_
        exact HR rfl d_R_among_44 h hw
    · replace h := h.1 c9
      refine lv_iconst (pc := 17) (v := 1) hx hb d_R_among_17 (by decide) ?_
      refine lv_goto (pc := 18) (tgt := 44) hx hb d_R_among_18 (by decide) ?_
      exact HR rfl d_R_among_44 h hw
  · replace h := h.1 c9
    refine lv_iconst (pc := 6) (v := 0) hx hb d_R_among_6 (by decide) ?_
    refine lv_goto (pc := 7) (tgt := 44) hx hb d_R_among_7 (by decide) ?_
    exact HR rfl d_R_among_44 h hw
end
theorem c_R_among {l : Launch} {D : va_G} {cA : Nat → ClassId} {a : Nat → Nat} {X : (Nat → Prop) → State → Prop} (hX : XT X) {σ : SS} {post : Int32 → SS → Prop} {x0 : Int64} {x2 : Int64} {x4 : Int64} {x6 : Int64} {x8 : Int64} (h : f_R_among post σ x0 x2 x4 x6 x8) : mI l y_R_among b_R_among 10 (some .int) 0 0 D vcl (tyl cA) (wR cA a) X σ [.long x0, .long x2, .long x4, .long x6, .long x8] post := met_I (by decide) (Nat.le_of_ble_eq_true rfl) (fun p e s m args below meth c A Q fx HR H ls hw hl => e_R_among hX fx HR h hw hl)
abbrev r_R_functionOf : Room := { frames := 1, cells := 0, slots := 0, locals := 29 }
def f_R_functionOf (post : Int32 → SS → Prop) (σ : SS) (x0 : Int64) : Prop := f_R_among (fun r_2 σ_1 => f_R_among (fun r_4 σ_3 => br (r_2 < 0) (br (r_4 < 0) (post (-1) σ_3) (post (4 + r_4) σ_3)) (post r_2 σ_3)) σ_1 x0 4277315 5461314 4277316 4279876) σ x0 4411213 5129543 5066582 4804163
section
variable {p : Program} {l : Launch} {e : Env} {s : State} {m : MethodId} {args : Array Value} {below : List Frame} {meth : Method} {c : Code} {Q : State → Prop} {D : va_G} {cA : Nat → ClassId} {a : Nat → Nat} {X : (Nat → Prop) → State → Prop} {A : Nat → Prop}
set_option maxHeartbeats 4000000 in
set_option maxRecDepth 100000 in
theorem e_R_functionOf (hX : XT X) (fx : CallFix p m c b_R_functionOf 4 s args GW RNR) {post : Int32 → SS → Prop} (HR : RetI p l e r_R_functionOf s m args below meth c Q D vcl (tyl cA) (wR cA a) X A b_R_functionOf .int post) {σ : SS} {x0 : Int64} {H : Heap} {locs : List Loc} {ls : Array Slot} (h : f_R_functionOf post σ x0) (hw : CX D vcl (tyl cA) (wR cA a σ) X A s H locs) (hl : lv_has ls 4 [(0, .long x0)]) : W p l e r_R_functionOf s m args below meth c H locs 0 0 Q (F0 m 0 ls []) := by
  have hx := fx.1
  have hb := fx.2.1
  unfold f_R_functionOf at h
  refine lv_lload_n (pc := 0) hx hb d_R_functionOf_0 rfl (lv_at hl 0 rfl) ?_
  refine lv_ldc2 (pc := 1) (v := 4411213) hx hb fx.2.2.2.1 (fx.2.2.2.2 _ kw_1384) d_R_functionOf_1 ?_
  refine lv_ldc2 (pc := 4) (v := 5129543) hx hb fx.2.2.2.1 (fx.2.2.2.2 _ kw_1385) d_R_functionOf_4 ?_
  refine lv_ldc2 (pc := 7) (v := 5066582) hx hb fx.2.2.2.1 (fx.2.2.2.2 _ kw_1386) d_R_functionOf_7 ?_
  refine lv_ldc2 (pc := 10) (v := 4804163) hx hb fx.2.2.2.1 (fx.2.2.2.2 _ kw_1387) d_R_functionOf_10 ?_
  refine cxSI (pc := 13) hX fx hw (c_R_among hX h) cw_R_210 rfl ⟨Nat.le_of_ble_eq_true rfl, Nat.le_of_ble_eq_true rfl⟩ hl.1 (Nat.le_of_ble_eq_true rfl) d_R_functionOf_13 ⟨Nat.zero_le _, Nat.zero_le _⟩ (fun r_2 σ_1 H locs hw h => ?_)
  refine lv_istore_n (pc := 16) (lv' := [(2, .int r_2), (0, .long x0)]) hx hb d_R_functionOf_16 rfl hl (by decide) rfl (fun ls hl => ?_)
  refine lv_lload_n (pc := 17) hx hb d_R_functionOf_17 rfl (lv_at hl 1 rfl) ?_
  refine lv_ldc2 (pc := 18) (v := 4277315) hx hb fx.2.2.2.1 (fx.2.2.2.2 _ kw_1388) d_R_functionOf_18 ?_
  refine lv_ldc2 (pc := 21) (v := 5461314) hx hb fx.2.2.2.1 (fx.2.2.2.2 _ kw_1389) d_R_functionOf_21 ?_
  refine lv_ldc2 (pc := 24) (v := 4277316) hx hb fx.2.2.2.1 (fx.2.2.2.2 _ kw_1390) d_R_functionOf_24 ?_
  refine lv_ldc2 (pc := 27) (v := 4279876) hx hb fx.2.2.2.1 (fx.2.2.2.2 _ kw_1391) d_R_functionOf_27 ?_
  refine cxSI (pc := 30) hX fx hw (c_R_among hX h) cw_R_210 rfl ⟨Nat.le_of_ble_eq_true rfl, Nat.le_of_ble_eq_true rfl⟩ hl.1 (Nat.le_of_ble_eq_true rfl) d_R_functionOf_30 ⟨Nat.zero_le _, Nat.zero_le _⟩ (fun r_4 σ_3 H locs hw h => ?_)
  refine lv_istore_n (pc := 33) (lv' := [(3, .int r_4), (2, .int r_2), (0, .long x0)]) hx hb d_R_functionOf_33 rfl hl (by decide) rfl (fun ls hl => ?_)
  refine lv_iload_n (pc := 34) hx hb d_R_functionOf_34 rfl (lv_at hl 1 rfl) ?_
  refine lv_if_lt (pc := 35) (tgt := 42) hx hb d_R_functionOf_35 (by decide) (fun c9 => ?_) (fun c9 => ?_)
  · replace h := h.1 c9
    refine lv_iload_n (pc := 42) hx hb d_R_functionOf_42 rfl (lv_at hl 0 rfl) ?_
    refine lv_if_lt (pc := 43) (tgt := 52) hx hb d_R_functionOf_43 (by decide) (fun c9 => ?_) (fun c9 => ?_)
    · replace h := h.1 c9
      refine lv_iconst (pc := 52) (v := (-1)) hx hb d_R_functionOf_52 (by decide) ?_
      exact HR rfl d_R_functionOf_53 h hw
    · replace h := h.2 c9
      refine lv_iconst (pc := 46) (v := 4) hx hb d_R_functionOf_46 (by decide) ?_
      refine lv_iload_n (pc := 47) hx hb d_R_functionOf_47 rfl (lv_at hl 0 rfl) ?_
      refine lv_iadd (pc := 48) hx hb d_R_functionOf_48 ?_
      refine lv_goto (pc := 49) (tgt := 53) hx hb d_R_functionOf_49 (by decide) ?_
      exact HR rfl d_R_functionOf_53 h hw
  · replace h := h.2 c9
    refine lv_iload_n (pc := 38) hx hb d_R_functionOf_38 rfl (lv_at hl 1 rfl) ?_
    refine lv_goto (pc := 39) (tgt := 53) hx hb d_R_functionOf_39 (by decide) ?_
    exact HR rfl d_R_functionOf_53 h hw
end
theorem c_R_functionOf {l : Launch} {D : va_G} {cA : Nat → ClassId} {a : Nat → Nat} {X : (Nat → Prop) → State → Prop} (hX : XT X) {σ : SS} {post : Int32 → SS → Prop} {x0 : Int64} (h : f_R_functionOf post σ x0) : mI l y_R_functionOf b_R_functionOf 4 (some .int) 1 29 D vcl (tyl cA) (wR cA a) X σ [.long x0] post := met_I (by decide) (Nat.le_of_ble_eq_true rfl) (fun p e s m args below meth c A Q fx HR H ls hw hl => e_R_functionOf hX fx HR h hw hl)
abbrev r_R_whatOf : Room := { frames := 1, cells := 0, slots := 0, locals := 29 }
def f_R_whatOf (post : Int32 → SS → Prop) (σ : SS) (x0 : Int64) : Prop := f_R_among (fun r_2 σ_1 => br (r_2 < 0) (br ((lg_cmp x0 4475203) = 0) (post 5 σ_1) (br ((lg_cmp x0 4476739) = 0) (post 6 σ_1) (post (-1) σ_1))) (post (1 + r_2) σ_1)) σ x0 4475201 4476737 4475202 4476738
section
variable {p : Program} {l : Launch} {e : Env} {s : State} {m : MethodId} {args : Array Value} {below : List Frame} {meth : Method} {c : Code} {Q : State → Prop} {D : va_G} {cA : Nat → ClassId} {a : Nat → Nat} {X : (Nat → Prop) → State → Prop} {A : Nat → Prop}
set_option maxHeartbeats 4000000 in
set_option maxRecDepth 100000 in
theorem e_R_whatOf (hX : XT X) (fx : CallFix p m c b_R_whatOf 3 s args GW RNR) {post : Int32 → SS → Prop} (HR : RetI p l e r_R_whatOf s m args below meth c Q D vcl (tyl cA) (wR cA a) X A b_R_whatOf .int post) {σ : SS} {x0 : Int64} {H : Heap} {locs : List Loc} {ls : Array Slot} (h : f_R_whatOf post σ x0) (hw : CX D vcl (tyl cA) (wR cA a σ) X A s H locs) (hl : lv_has ls 3 [(0, .long x0)]) : W p l e r_R_whatOf s m args below meth c H locs 0 0 Q (F0 m 0 ls []) := by
  have hx := fx.1
  have hb := fx.2.1
  unfold f_R_whatOf at h
  refine lv_lload_n (pc := 0) hx hb d_R_whatOf_0 rfl (lv_at hl 0 rfl) ?_
  refine lv_ldc2 (pc := 1) (v := 4475201) hx hb fx.2.2.2.1 (fx.2.2.2.2 _ kw_1402) d_R_whatOf_1 ?_
  refine lv_ldc2 (pc := 4) (v := 4476737) hx hb fx.2.2.2.1 (fx.2.2.2.2 _ kw_1403) d_R_whatOf_4 ?_
  refine lv_ldc2 (pc := 7) (v := 4475202) hx hb fx.2.2.2.1 (fx.2.2.2.2 _ kw_1404) d_R_whatOf_7 ?_
  refine lv_ldc2 (pc := 10) (v := 4476738) hx hb fx.2.2.2.1 (fx.2.2.2.2 _ kw_1405) d_R_whatOf_10 ?_
  refine cxSI (pc := 13) hX fx hw (c_R_among hX h) cw_R_210 rfl ⟨Nat.le_of_ble_eq_true rfl, Nat.le_of_ble_eq_true rfl⟩ hl.1 (Nat.le_of_ble_eq_true rfl) d_R_whatOf_13 ⟨Nat.zero_le _, Nat.zero_le _⟩ (fun r_2 σ_1 H locs hw h => ?_)
  refine lv_istore_n (pc := 16) (lv' := [(2, .int r_2), (0, .long x0)]) hx hb d_R_whatOf_16 rfl hl (by decide) rfl (fun ls hl => ?_)
  refine lv_iload_n (pc := 17) hx hb d_R_whatOf_17 rfl (lv_at hl 0 rfl) ?_
  refine lv_if_lt (pc := 18) (tgt := 27) hx hb d_R_whatOf_18 (by decide) (fun c9 => ?_) (fun c9 => ?_)
  · replace h := h.1 c9
    refine lv_lload_n (pc := 27) hx hb d_R_whatOf_27 rfl (lv_at hl 1 rfl) ?_
    refine lv_ldc2 (pc := 28) (v := 4475203) hx hb fx.2.2.2.1 (fx.2.2.2.2 _ kw_1406) d_R_whatOf_28 ?_
    refine W.lcmp (pc := 31) hx hb d_R_whatOf_31 ?_
    refine lv_if_ne (pc := 32) (tgt := 39) hx hb d_R_whatOf_32 (by decide) (fun c9 => ?_) (fun c9 => ?_)
    · replace h := h.2 c9
      refine lv_lload_n (pc := 39) hx hb d_R_whatOf_39 rfl (lv_at hl 1 rfl) ?_
      refine lv_ldc2 (pc := 40) (v := 4476739) hx hb fx.2.2.2.1 (fx.2.2.2.2 _ kw_1407) d_R_whatOf_40 ?_
      refine W.lcmp (pc := 43) hx hb d_R_whatOf_43 ?_
      refine lv_if_ne (pc := 44) (tgt := 52) hx hb d_R_whatOf_44 (by decide) (fun c9 => ?_) (fun c9 => ?_)
      · replace h := h.2 c9
        refine lv_iconst (pc := 52) (v := (-1)) hx hb d_R_whatOf_52 (by decide) ?_
        exact HR rfl d_R_whatOf_53 h hw
      · replace h := h.1 c9
        refine lv_bipush (pc := 47) (v := 6) hx hb d_R_whatOf_47 (by decide) ?_
        refine lv_goto (pc := 49) (tgt := 53) hx hb d_R_whatOf_49 (by decide) ?_
        exact HR rfl d_R_whatOf_53 h hw
    · replace h := h.1 c9
      refine lv_iconst (pc := 35) (v := 5) hx hb d_R_whatOf_35 (by decide) ?_
      refine lv_goto (pc := 36) (tgt := 53) hx hb d_R_whatOf_36 (by decide) ?_
      exact HR rfl d_R_whatOf_53 h hw
  · replace h := h.2 c9
    refine lv_iconst (pc := 21) (v := 1) hx hb d_R_whatOf_21 (by decide) ?_
    refine lv_iload_n (pc := 22) hx hb d_R_whatOf_22 rfl (lv_at hl 0 rfl) ?_
    refine lv_iadd (pc := 23) hx hb d_R_whatOf_23 ?_
    refine lv_goto (pc := 24) (tgt := 53) hx hb d_R_whatOf_24 (by decide) ?_
    exact HR rfl d_R_whatOf_53 h hw
end
theorem c_R_whatOf {l : Launch} {D : va_G} {cA : Nat → ClassId} {a : Nat → Nat} {X : (Nat → Prop) → State → Prop} (hX : XT X) {σ : SS} {post : Int32 → SS → Prop} {x0 : Int64} (h : f_R_whatOf post σ x0) : mI l y_R_whatOf b_R_whatOf 3 (some .int) 1 29 D vcl (tyl cA) (wR cA a) X σ [.long x0] post := met_I (by decide) (Nat.le_of_ble_eq_true rfl) (fun p e s m args below meth c A Q fx HR H ls hw hl => e_R_whatOf hX fx HR h hw hl)
abbrev r_R_suffix : Room := { frames := 0, cells := 0, slots := 0, locals := 0 }
def f_R_suffix (post : Int32 → SS → Prop) (σ : SS) (x0 : Int32) (x1 : Int32) (x2 : Int32) (x3 : Int32) : Prop := br (x0 = x1) (post 1 σ) (br (x0 = x2) (post 2 σ) (br (x0 = x3) (post 3 σ) (post 0 σ)))
section
variable {p : Program} {l : Launch} {e : Env} {s : State} {m : MethodId} {args : Array Value} {below : List Frame} {meth : Method} {c : Code} {Q : State → Prop} {D : va_G} {cA : Nat → ClassId} {a : Nat → Nat} {X : (Nat → Prop) → State → Prop} {A : Nat → Prop}
set_option maxHeartbeats 4000000 in
set_option maxRecDepth 100000 in
theorem e_R_suffix (hX : XT X) (fx : CallFix p m c b_R_suffix 4 s args GW RNR) {post : Int32 → SS → Prop} (HR : RetI p l e r_R_suffix s m args below meth c Q D vcl (tyl cA) (wR cA a) X A b_R_suffix .int post) {σ : SS} {x0 : Int32} {x1 : Int32} {x2 : Int32} {x3 : Int32} {H : Heap} {locs : List Loc} {ls : Array Slot} (h : f_R_suffix post σ x0 x1 x2 x3) (hw : CX D vcl (tyl cA) (wR cA a σ) X A s H locs) (hl : lv_has ls 4 [(0, .int x0), (1, .int x1), (2, .int x2), (3, .int x3)]) : W p l e r_R_suffix s m args below meth c H locs 0 0 Q (F0 m 0 ls []) := by
  have hx := fx.1
  have hb := fx.2.1
  unfold f_R_suffix at h
  refine lv_iload_n (pc := 0) hx hb d_R_suffix_0 rfl (lv_at hl 0 rfl) ?_
  refine lv_iload_n (pc := 1) hx hb d_R_suffix_1 rfl (lv_at hl 1 rfl) ?_
  refine lv_icmp_ne (pc := 2) (tgt := 9) hx hb d_R_suffix_2 (by decide) (fun c9 => ?_) (fun c9 => ?_)
  · replace h := h.2 c9
    refine lv_iload_n (pc := 9) hx hb d_R_suffix_9 rfl (lv_at hl 0 rfl) ?_
    refine lv_iload_n (pc := 10) hx hb d_R_suffix_10 rfl (lv_at hl 2 rfl) ?_
    refine lv_icmp_ne (pc := 11) (tgt := 18) hx hb d_R_suffix_11 (by decide) (fun c9 => ?_) (fun c9 => ?_)
    · replace h := h.2 c9
      refine lv_iload_n (pc := 18) hx hb d_R_suffix_18 rfl (lv_at hl 0 rfl) ?_
      refine lv_iload_n (pc := 19) hx hb d_R_suffix_19 rfl (lv_at hl 3 rfl) ?_
      refine lv_icmp_ne (pc := 20) (tgt := 27) hx hb d_R_suffix_20 (by decide) (fun c9 => ?_) (fun c9 => ?_)
      · replace h := h.2 c9
        refine lv_iconst (pc := 27) (v := 0) hx hb d_R_suffix_27 (by decide) ?_
        exact HR rfl d_R_suffix_28 h hw
      · replace h := h.1 c9
        refine lv_iconst (pc := 23) (v := 3) hx hb d_R_suffix_23 (by decide) ?_
        refine lv_goto (pc := 24) (tgt := 28) hx hb d_R_suffix_24 (by decide) ?_
        exact HR rfl d_R_suffix_28 h hw
    · replace h := h.1 c9
      refine lv_iconst (pc := 14) (v := 2) hx hb d_R_suffix_14 (by decide) ?_
      refine lv_goto (pc := 15) (tgt := 28) hx hb d_R_suffix_15 (by decide) ?_
      exact HR rfl d_R_suffix_28 h hw
  · replace h := h.1 c9
    refine lv_iconst (pc := 5) (v := 1) hx hb d_R_suffix_5 (by decide) ?_
    refine lv_goto (pc := 6) (tgt := 28) hx hb d_R_suffix_6 (by decide) ?_
    exact HR rfl d_R_suffix_28 h hw
end
theorem c_R_suffix {l : Launch} {D : va_G} {cA : Nat → ClassId} {a : Nat → Nat} {X : (Nat → Prop) → State → Prop} (hX : XT X) {σ : SS} {post : Int32 → SS → Prop} {x0 : Int32} {x1 : Int32} {x2 : Int32} {x3 : Int32} (h : f_R_suffix post σ x0 x1 x2 x3) : mI l y_R_suffix b_R_suffix 4 (some .int) 0 0 D vcl (tyl cA) (wR cA a) X σ [.int x0, .int x1, .int x2, .int x3] post := met_I (by decide) (Nat.le_of_ble_eq_true rfl) (fun p e s m args below meth c A Q fx HR H ls hw hl => e_R_suffix hX fx HR h hw hl)
abbrev r_R_suffixed : Room := { frames := 2, cells := 0, slots := 0, locals := 52 }
def f_R_suffixed_223 (post : SS → Prop) (σ : SS) (x7 : Int32) (x8 : Int32) (s0 : Int32) : Prop := nm (sI σ 26 s0) fun σ_1 => nm (sI σ_1 27 ((24576 + (256 * x7)) + (64 * x8))) fun σ_2 => post σ_2
def f_R_suffixed_210 (post : SS → Prop) (σ : SS) (x7 : Int32) (x8 : Int32) : Prop := br (x7 = 0) (f_R_suffixed_223 post σ x7 x8 6) (f_R_suffixed_223 post σ x7 x8 7)
def f_R_suffixed_187 (post : SS → Prop) (σ : SS) (x3 : Int32) (x7 : Int32) (s0 : Int32) : Prop := br (x7 < 0) (post σ) (br (x3 = 5) (post σ) (br (x3 = 4) (br (s0 = 0) (post σ) (f_R_suffixed_210 post σ x7 s0)) (f_R_suffixed_210 post σ x7 s0)))
def f_R_suffixed_162 (post : SS → Prop) (σ : SS) (x1 : Int64) (x3 : Int32) (s0 : Int32) : Prop := br (x3 = 4) (f_R_letter (fun r_4 σ_3 => f_R_suffix (fun r_6 σ_5 => f_R_suffixed_187 post σ_5 x3 s0 r_6) σ_3 r_4 83 67 80) σ x1 3) (f_R_suffixed_187 post σ x3 s0 0)
def f_R_suffixed_103 (post : SS → Prop) (σ : SS) (x3 : Int32) (x6 : Int32) (x8 : Int32) (x9 : Int32) (s0 : Int32) (s1 : Int32) : Prop := nm (s1 + s0) fun x7_7 => br (x3 ≤ x7_7) (nm (sI σ 26 5) fun σ_8 => nm (sI σ_8 27 (((32768 + (256 * x6)) + (64 * x9)) + (16 * x8))) fun σ_9 => post σ_9) (post σ)
def f_R_suffixed_89 (post : SS → Prop) (σ : SS) (x3 : Int32) (x6 : Int32) (x7 : Int32) (x8 : Int32) (s0 : Int32) : Prop := br (s0 ≤ 0) (f_R_suffixed_103 post σ x3 x6 x8 s0 0 x7) (f_R_suffixed_103 post σ x3 x6 x8 s0 1 x7)
def f_R_suffixed_61 (post : SS → Prop) (σ : SS) (x1 : Int64) (x3 : Int32) (x6 : Int32) (x8 : Int32) (s0 : Int32) (s1 : Int32) : Prop := nm (s1 + s0) fun x7_10 => br (x3 ≤ x7_10) (f_R_suffixed_89 post σ x3 x6 x7_10 x8 0) (f_R_letter (fun r_12 σ_11 => f_R_suffix (fun r_14 σ_13 => f_R_suffixed_89 post σ_13 x3 x6 x7_10 x8 r_14) σ_11 r_12 76 82 83) σ x1 x7_10)
def f_R_suffixed_47 (post : SS → Prop) (σ : SS) (x1 : Int64) (x3 : Int32) (x6 : Int32) (x7 : Int32) (s0 : Int32) : Prop := br (s0 ≤ 0) (f_R_suffixed_61 post σ x1 x3 x6 s0 0 x7) (f_R_suffixed_61 post σ x1 x3 x6 s0 1 x7)
def f_R_suffixed (post : SS → Prop) (σ : SS) (x1 : Int64) (x3 : Int32) : Prop := f_R_front (fun r_16 σ_15 => f_R_functionOf (fun r_18 σ_17 => br (r_18 < 0) (br ((lg_cmp r_16 5130575) = 0) (f_R_suffixed_162 post σ_17 x1 x3 0) (f_R_whatOf (fun r_20 σ_19 => f_R_suffixed_162 post σ_19 x1 x3 r_20) σ_17 r_16)) (br (x3 ≤ 3) (f_R_suffixed_47 post σ_17 x1 x3 r_18 3 0) (f_R_letter (fun r_22 σ_21 => f_R_suffix (fun r_24 σ_23 => f_R_suffixed_47 post σ_23 x1 x3 r_18 3 r_24) σ_21 r_22 90 79 67) σ_17 x1 3))) σ_15 r_16) σ x1 3
section
variable {p : Program} {l : Launch} {e : Env} {s : State} {m : MethodId} {args : Array Value} {below : List Frame} {meth : Method} {c : Code} {Q : State → Prop} {D : va_G} {cA : Nat → ClassId} {a : Nat → Nat} {X : (Nat → Prop) → State → Prop} {A : Nat → Prop}
set_option maxHeartbeats 4000000 in
set_option maxRecDepth 100000 in
theorem c_R_suffixed_223 (hX : XT X) (fx : CallFix p m c b_R_suffixed 10 s args GW RNR) {post : SS → Prop} (HR : RetV p l e r_R_suffixed s m args below meth c Q D vcl (tyl cA) (wR cA a) X A b_R_suffixed post) {σ : SS} {x7 : Int32} {x8 : Int32} {s0 : Int32} {H : Heap} {locs : List Loc} {ls : Array Slot} (h : f_R_suffixed_223 post σ x7 x8 s0) (hw : CX D vcl (tyl cA) (wR cA a σ) X A s H locs) (hl : lv_has ls 10 [(0, .ref (a 0)), (7, .int x7), (8, .int x8)]) : W p l e r_R_suffixed s m args below meth c H locs 0 0 Q (F0 m 223 ls [.int s0, .ref (a 0)]) := by
  have hx := fx.1
  have hb := fx.2.1
  unfold f_R_suffixed_223 at h
  refine pR_0_sort (pc := 223) fx hw kw_1111 d_R_suffixed_223 (fun σ_1 e9 H locs hw => ?_)
  replace h := nm_u h e9
  clear e9
  refine lv_aload_n (pc := 226) hx hb d_R_suffixed_226 rfl (lv_at hl 0 rfl) ?_
  refine lv_sipush (pc := 227) (v := 24576) hx hb d_R_suffixed_227 (by decide) ?_
  refine lv_sipush (pc := 230) (v := 256) hx hb d_R_suffixed_230 (by decide) ?_
  refine lv_iload (pc := 233) hx hb d_R_suffixed_233 (lv_at hl 1 rfl) ?_
  refine lv_imul (pc := 235) hx hb d_R_suffixed_235 ?_
  refine lv_iadd (pc := 236) hx hb d_R_suffixed_236 ?_
  refine lv_bipush (pc := 237) (v := 64) hx hb d_R_suffixed_237 (by decide) ?_
  refine lv_iload (pc := 239) hx hb d_R_suffixed_239 (lv_at hl 2 rfl) ?_
  refine lv_imul (pc := 241) hx hb d_R_suffixed_241 ?_
  refine lv_iadd (pc := 242) hx hb d_R_suffixed_242 ?_
  refine pR_0_base (pc := 243) fx hw kw_1112 d_R_suffixed_243 (fun σ_2 e9 H locs hw => ?_)
  replace h := nm_u h e9
  clear e9
  exact HR d_R_suffixed_246 h hw
set_option maxHeartbeats 4000000 in
set_option maxRecDepth 100000 in
theorem c_R_suffixed_210 (hX : XT X) (fx : CallFix p m c b_R_suffixed 10 s args GW RNR) {post : SS → Prop} (HR : RetV p l e r_R_suffixed s m args below meth c Q D vcl (tyl cA) (wR cA a) X A b_R_suffixed post) {σ : SS} {x7 : Int32} {x8 : Int32} {H : Heap} {locs : List Loc} {ls : Array Slot} (h : f_R_suffixed_210 post σ x7 x8) (hw : CX D vcl (tyl cA) (wR cA a σ) X A s H locs) (hl : lv_has ls 10 [(0, .ref (a 0)), (7, .int x7), (8, .int x8)]) : W p l e r_R_suffixed s m args below meth c H locs 0 0 Q (F0 m 210 ls []) := by
  have hx := fx.1
  have hb := fx.2.1
  unfold f_R_suffixed_210 at h
  refine lv_aload_n (pc := 210) hx hb d_R_suffixed_210 rfl (lv_at hl 0 rfl) ?_
  refine lv_iload (pc := 211) hx hb d_R_suffixed_211 (lv_at hl 1 rfl) ?_
  refine lv_if_ne (pc := 213) (tgt := 221) hx hb d_R_suffixed_213 (by decide) (fun c9 => ?_) (fun c9 => ?_)
  · replace h := h.2 c9
    refine lv_bipush (pc := 221) (v := 7) hx hb d_R_suffixed_221 (by decide) ?_
    exact c_R_suffixed_223 hX fx HR h hw (lv_sub hl [0, 1, 2] rfl)
  · replace h := h.1 c9
    refine lv_bipush (pc := 216) (v := 6) hx hb d_R_suffixed_216 (by decide) ?_
    refine lv_goto (pc := 218) (tgt := 223) hx hb d_R_suffixed_218 (by decide) ?_
    exact c_R_suffixed_223 hX fx HR h hw (lv_sub hl [0, 1, 2] rfl)
set_option maxHeartbeats 4000000 in
set_option maxRecDepth 100000 in
theorem c_R_suffixed_187 (hX : XT X) (fx : CallFix p m c b_R_suffixed 10 s args GW RNR) {post : SS → Prop} (HR : RetV p l e r_R_suffixed s m args below meth c Q D vcl (tyl cA) (wR cA a) X A b_R_suffixed post) {σ : SS} {x3 : Int32} {x7 : Int32} {s0 : Int32} {H : Heap} {locs : List Loc} {ls : Array Slot} (h : f_R_suffixed_187 post σ x3 x7 s0) (hw : CX D vcl (tyl cA) (wR cA a σ) X A s H locs) (hl : lv_has ls 10 [(0, .ref (a 0)), (3, .int x3), (7, .int x7)]) : W p l e r_R_suffixed s m args below meth c H locs 0 0 Q (F0 m 187 ls [.int s0]) := by
  have hx := fx.1
  have hb := fx.2.1
  unfold f_R_suffixed_187 at h
  refine lv_istore (pc := 187) (lv' := [(8, .int s0), (0, .ref (a 0)), (3, .int x3), (7, .int x7)]) hx hb d_R_suffixed_187 hl (by decide) rfl (fun ls hl => ?_)
  refine lv_iload (pc := 189) hx hb d_R_suffixed_189 (lv_at hl 3 rfl) ?_
  refine lv_if_lt (pc := 191) (tgt := 209) hx hb d_R_suffixed_191 (by decide) (fun c9 => ?_) (fun c9 => ?_)
  · replace h := h.1 c9
    exact HR d_R_suffixed_209 h hw
  · replace h := h.2 c9
    refine lv_iload_n (pc := 194) hx hb d_R_suffixed_194 rfl (lv_at hl 2 rfl) ?_
    refine lv_iconst (pc := 195) (v := 5) hx hb d_R_suffixed_195 (by decide) ?_
    refine lv_icmp_eq (pc := 196) (tgt := 209) hx hb d_R_suffixed_196 (by decide) (fun c9 => ?_) (fun c9 => ?_)
    · replace h := h.1 c9
      exact HR d_R_suffixed_209 h hw
    · replace h := h.2 c9
      refine lv_iload_n (pc := 199) hx hb d_R_suffixed_199 rfl (lv_at hl 2 rfl) ?_
      refine lv_iconst (pc := 200) (v := 4) hx hb d_R_suffixed_200 (by decide) ?_
      refine lv_icmp_ne (pc := 201) (tgt := 210) hx hb d_R_suffixed_201 (by decide) (fun c9 => ?_) (fun c9 => ?_)
      · replace h := h.2 c9
        exact c_R_suffixed_210 hX fx HR h hw (lv_sub hl [1, 3, 0] rfl)
      · replace h := h.1 c9
        refine lv_iload (pc := 204) hx hb d_R_suffixed_204 (lv_at hl 0 rfl) ?_
        refine lv_if_ne (pc := 206) (tgt := 210) hx hb d_R_suffixed_206 (by decide) (fun c9 => ?_) (fun c9 => ?_)
        · replace h := h.2 c9
          exact c_R_suffixed_210 hX fx HR h hw (lv_sub hl [1, 3, 0] rfl)
        · replace h := h.1 c9
          exact HR d_R_suffixed_209 h hw
set_option maxHeartbeats 4000000 in
set_option maxRecDepth 100000 in
theorem c_R_suffixed_162 (hX : XT X) (fx : CallFix p m c b_R_suffixed 10 s args GW RNR) {post : SS → Prop} (HR : RetV p l e r_R_suffixed s m args below meth c Q D vcl (tyl cA) (wR cA a) X A b_R_suffixed post) {σ : SS} {x1 : Int64} {x3 : Int32} {s0 : Int32} {H : Heap} {locs : List Loc} {ls : Array Slot} (h : f_R_suffixed_162 post σ x1 x3 s0) (hw : CX D vcl (tyl cA) (wR cA a σ) X A s H locs) (hl : lv_has ls 10 [(0, .ref (a 0)), (1, .long x1), (3, .int x3)]) : W p l e r_R_suffixed s m args below meth c H locs 0 0 Q (F0 m 162 ls [.int s0]) := by
  have hx := fx.1
  have hb := fx.2.1
  unfold f_R_suffixed_162 at h
  refine lv_istore (pc := 162) (lv' := [(7, .int s0), (0, .ref (a 0)), (1, .long x1), (3, .int x3)]) hx hb d_R_suffixed_162 hl (by decide) rfl (fun ls hl => ?_)
  refine lv_iload_n (pc := 164) hx hb d_R_suffixed_164 rfl (lv_at hl 3 rfl) ?_
  refine lv_iconst (pc := 165) (v := 4) hx hb d_R_suffixed_165 (by decide) ?_
  refine lv_icmp_ne (pc := 166) (tgt := 186) hx hb d_R_suffixed_166 (by decide) (fun c9 => ?_) (fun c9 => ?_)
  · replace h := h.2 c9
    refine lv_iconst (pc := 186) (v := 0) hx hb d_R_suffixed_186 (by decide) ?_
    exact c_R_suffixed_187 hX fx HR h hw (lv_sub hl [1, 3, 0] rfl)
  · replace h := h.1 c9
    refine lv_lload_n (pc := 169) hx hb d_R_suffixed_169 rfl (lv_at hl 2 rfl) ?_
    refine lv_iconst (pc := 170) (v := 3) hx hb d_R_suffixed_170 (by decide) ?_
    refine cxSI (pc := 171) hX fx hw (c_R_letter hX h) cw_R_297 rfl ⟨Nat.le_of_ble_eq_true rfl, Nat.le_of_ble_eq_true rfl⟩ hl.1 (Nat.le_of_ble_eq_true rfl) d_R_suffixed_171 ⟨Nat.zero_le _, Nat.zero_le _⟩ (fun r_4 σ_3 H locs hw h => ?_)
    refine lv_bipush (pc := 174) (v := 83) hx hb d_R_suffixed_174 (by decide) ?_
    refine lv_bipush (pc := 176) (v := 67) hx hb d_R_suffixed_176 (by decide) ?_
    refine lv_bipush (pc := 178) (v := 80) hx hb d_R_suffixed_178 (by decide) ?_
    refine cxSI (pc := 180) hX fx hw (c_R_suffix hX h) cw_R_301 rfl ⟨Nat.le_of_ble_eq_true rfl, Nat.le_of_ble_eq_true rfl⟩ hl.1 (Nat.le_of_ble_eq_true rfl) d_R_suffixed_180 ⟨Nat.zero_le _, Nat.zero_le _⟩ (fun r_6 σ_5 H locs hw h => ?_)
    refine lv_goto (pc := 183) (tgt := 187) hx hb d_R_suffixed_183 (by decide) ?_
    exact c_R_suffixed_187 hX fx HR h hw (lv_sub hl [1, 3, 0] rfl)
set_option maxHeartbeats 4000000 in
set_option maxRecDepth 100000 in
theorem c_R_suffixed_103 (hX : XT X) (fx : CallFix p m c b_R_suffixed 10 s args GW RNR) {post : SS → Prop} (HR : RetV p l e r_R_suffixed s m args below meth c Q D vcl (tyl cA) (wR cA a) X A b_R_suffixed post) {σ : SS} {x3 : Int32} {x6 : Int32} {x8 : Int32} {x9 : Int32} {s0 : Int32} {s1 : Int32} {H : Heap} {locs : List Loc} {ls : Array Slot} (h : f_R_suffixed_103 post σ x3 x6 x8 x9 s0 s1) (hw : CX D vcl (tyl cA) (wR cA a σ) X A s H locs) (hl : lv_has ls 10 [(0, .ref (a 0)), (3, .int x3), (6, .int x6), (8, .int x8), (9, .int x9)]) : W p l e r_R_suffixed s m args below meth c H locs 0 0 Q (F0 m 103 ls [.int s0, .int s1]) := by
  have hx := fx.1
  have hb := fx.2.1
  unfold f_R_suffixed_103 at h
  refine lv_iadd (pc := 103) hx hb d_R_suffixed_103 ?_
  refine lv_topi (fun x7_7 e9 => ?_)
  replace h := nm_u h e9
  clear e9
  refine lv_istore (pc := 104) (lv' := [(7, .int x7_7), (0, .ref (a 0)), (3, .int x3), (6, .int x6), (8, .int x8), (9, .int x9)]) hx hb d_R_suffixed_104 hl (by decide) rfl (fun ls hl => ?_)
  refine lv_iload (pc := 106) hx hb d_R_suffixed_106 (lv_at hl 0 rfl) ?_
  refine lv_iload_n (pc := 108) hx hb d_R_suffixed_108 rfl (lv_at hl 2 rfl) ?_
  refine lv_icmp_ge (pc := 109) (tgt := 113) hx hb d_R_suffixed_109 (by decide) (fun c9 => ?_) (fun c9 => ?_)
  · replace h := h.1 c9
    refine lv_aload_n (pc := 113) hx hb d_R_suffixed_113 rfl (lv_at hl 1 rfl) ?_
    refine lv_iconst (pc := 114) (v := 5) hx hb d_R_suffixed_114 (by decide) ?_
    refine pR_0_sort (pc := 115) fx hw kw_1111 d_R_suffixed_115 (fun σ_8 e9 H locs hw => ?_)
    replace h := nm_u h e9
    clear e9
    refine lv_aload_n (pc := 118) hx hb d_R_suffixed_118 rfl (lv_at hl 1 rfl) ?_
    refine lv_ldc (pc := 119) (v := 32768) hx hb fx.2.2.2.1 (fx.2.2.2.2 _ kw_1066) d_R_suffixed_119 ?_
    refine lv_sipush (pc := 121) (v := 256) hx hb d_R_suffixed_121 (by decide) ?_
    refine lv_iload (pc := 124) hx hb d_R_suffixed_124 (lv_at hl 3 rfl) ?_
    refine lv_imul (pc := 126) hx hb d_R_suffixed_126 ?_
    refine lv_iadd (pc := 127) hx hb d_R_suffixed_127 ?_
    refine lv_bipush (pc := 128) (v := 64) hx hb d_R_suffixed_128 (by decide) ?_
    refine lv_iload (pc := 130) hx hb d_R_suffixed_130 (lv_at hl 5 rfl) ?_
    refine lv_imul (pc := 132) hx hb d_R_suffixed_132 ?_
    refine lv_iadd (pc := 133) hx hb d_R_suffixed_133 ?_
    refine lv_bipush (pc := 134) (v := 16) hx hb d_R_suffixed_134 (by decide) ?_
    refine lv_iload (pc := 136) hx hb d_R_suffixed_136 (lv_at hl 4 rfl) ?_
    refine lv_imul (pc := 138) hx hb d_R_suffixed_138 ?_
    refine lv_iadd (pc := 139) hx hb d_R_suffixed_139 ?_
    refine pR_0_base (pc := 140) fx hw kw_1112 d_R_suffixed_140 (fun σ_9 e9 H locs hw => ?_)
    replace h := nm_u h e9
    clear e9
    exact HR d_R_suffixed_143 h hw
  · replace h := h.2 c9
    exact HR d_R_suffixed_112 h hw
set_option maxHeartbeats 4000000 in
set_option maxRecDepth 100000 in
theorem c_R_suffixed_89 (hX : XT X) (fx : CallFix p m c b_R_suffixed 10 s args GW RNR) {post : SS → Prop} (HR : RetV p l e r_R_suffixed s m args below meth c Q D vcl (tyl cA) (wR cA a) X A b_R_suffixed post) {σ : SS} {x3 : Int32} {x6 : Int32} {x7 : Int32} {x8 : Int32} {s0 : Int32} {H : Heap} {locs : List Loc} {ls : Array Slot} (h : f_R_suffixed_89 post σ x3 x6 x7 x8 s0) (hw : CX D vcl (tyl cA) (wR cA a σ) X A s H locs) (hl : lv_has ls 10 [(0, .ref (a 0)), (3, .int x3), (6, .int x6), (7, .int x7), (8, .int x8)]) : W p l e r_R_suffixed s m args below meth c H locs 0 0 Q (F0 m 89 ls [.int s0]) := by
  have hx := fx.1
  have hb := fx.2.1
  unfold f_R_suffixed_89 at h
  refine lv_istore (pc := 89) (lv' := [(9, .int s0), (0, .ref (a 0)), (3, .int x3), (6, .int x6), (7, .int x7), (8, .int x8)]) hx hb d_R_suffixed_89 hl (by decide) rfl (fun ls hl => ?_)
  refine lv_iload (pc := 91) hx hb d_R_suffixed_91 (lv_at hl 4 rfl) ?_
  refine lv_iload (pc := 93) hx hb d_R_suffixed_93 (lv_at hl 0 rfl) ?_
  refine lv_if_le (pc := 95) (tgt := 102) hx hb d_R_suffixed_95 (by decide) (fun c9 => ?_) (fun c9 => ?_)
  · replace h := h.1 c9
    refine lv_iconst (pc := 102) (v := 0) hx hb d_R_suffixed_102 (by decide) ?_
    exact c_R_suffixed_103 hX fx HR h hw (lv_sub hl [1, 2, 3, 5, 0] rfl)
  · replace h := h.2 c9
    refine lv_iconst (pc := 98) (v := 1) hx hb d_R_suffixed_98 (by decide) ?_
    refine lv_goto (pc := 99) (tgt := 103) hx hb d_R_suffixed_99 (by decide) ?_
    exact c_R_suffixed_103 hX fx HR h hw (lv_sub hl [1, 2, 3, 5, 0] rfl)
set_option maxHeartbeats 4000000 in
set_option maxRecDepth 100000 in
theorem c_R_suffixed_61 (hX : XT X) (fx : CallFix p m c b_R_suffixed 10 s args GW RNR) {post : SS → Prop} (HR : RetV p l e r_R_suffixed s m args below meth c Q D vcl (tyl cA) (wR cA a) X A b_R_suffixed post) {σ : SS} {x1 : Int64} {x3 : Int32} {x6 : Int32} {x8 : Int32} {s0 : Int32} {s1 : Int32} {H : Heap} {locs : List Loc} {ls : Array Slot} (h : f_R_suffixed_61 post σ x1 x3 x6 x8 s0 s1) (hw : CX D vcl (tyl cA) (wR cA a σ) X A s H locs) (hl : lv_has ls 10 [(0, .ref (a 0)), (1, .long x1), (3, .int x3), (6, .int x6), (8, .int x8)]) : W p l e r_R_suffixed s m args below meth c H locs 0 0 Q (F0 m 61 ls [.int s0, .int s1]) := by
  have hx := fx.1
  have hb := fx.2.1
  unfold f_R_suffixed_61 at h
  refine lv_iadd (pc := 61) hx hb d_R_suffixed_61 ?_
  refine lv_topi (fun x7_10 e9 => ?_)
  replace h := nm_u h e9
  clear e9
  refine lv_istore (pc := 62) (lv' := [(7, .int x7_10), (0, .ref (a 0)), (1, .long x1), (3, .int x3), (6, .int x6), (8, .int x8)]) hx hb d_R_suffixed_62 hl (by decide) rfl (fun ls hl => ?_)
  refine lv_iload (pc := 64) hx hb d_R_suffixed_64 (lv_at hl 0 rfl) ?_
  refine lv_iload_n (pc := 66) hx hb d_R_suffixed_66 rfl (lv_at hl 3 rfl) ?_
  refine lv_icmp_ge (pc := 67) (tgt := 88) hx hb d_R_suffixed_67 (by decide) (fun c9 => ?_) (fun c9 => ?_)
  · replace h := h.1 c9
    refine lv_iconst (pc := 88) (v := 0) hx hb d_R_suffixed_88 (by decide) ?_
    exact c_R_suffixed_89 hX fx HR h hw (lv_sub hl [1, 3, 4, 0, 5] rfl)
  · replace h := h.2 c9
    refine lv_lload_n (pc := 70) hx hb d_R_suffixed_70 rfl (lv_at hl 2 rfl) ?_
    refine lv_iload (pc := 71) hx hb d_R_suffixed_71 (lv_at hl 0 rfl) ?_
    refine cxSI (pc := 73) hX fx hw (c_R_letter hX h) cw_R_297 rfl ⟨Nat.le_of_ble_eq_true rfl, Nat.le_of_ble_eq_true rfl⟩ hl.1 (Nat.le_of_ble_eq_true rfl) d_R_suffixed_73 ⟨Nat.zero_le _, Nat.zero_le _⟩ (fun r_12 σ_11 H locs hw h => ?_)
    refine lv_bipush (pc := 76) (v := 76) hx hb d_R_suffixed_76 (by decide) ?_
    refine lv_bipush (pc := 78) (v := 82) hx hb d_R_suffixed_78 (by decide) ?_
    refine lv_bipush (pc := 80) (v := 83) hx hb d_R_suffixed_80 (by decide) ?_
    refine cxSI (pc := 82) hX fx hw (c_R_suffix hX h) cw_R_301 rfl ⟨Nat.le_of_ble_eq_true rfl, Nat.le_of_ble_eq_true rfl⟩ hl.1 (Nat.le_of_ble_eq_true rfl) d_R_suffixed_82 ⟨Nat.zero_le _, Nat.zero_le _⟩ (fun r_14 σ_13 H locs hw h => ?_)
    refine lv_goto (pc := 85) (tgt := 89) hx hb d_R_suffixed_85 (by decide) ?_
    exact c_R_suffixed_89 hX fx HR h hw (lv_sub hl [1, 3, 4, 0, 5] rfl)
set_option maxHeartbeats 4000000 in
set_option maxRecDepth 100000 in
theorem c_R_suffixed_47 (hX : XT X) (fx : CallFix p m c b_R_suffixed 10 s args GW RNR) {post : SS → Prop} (HR : RetV p l e r_R_suffixed s m args below meth c Q D vcl (tyl cA) (wR cA a) X A b_R_suffixed post) {σ : SS} {x1 : Int64} {x3 : Int32} {x6 : Int32} {x7 : Int32} {s0 : Int32} {H : Heap} {locs : List Loc} {ls : Array Slot} (h : f_R_suffixed_47 post σ x1 x3 x6 x7 s0) (hw : CX D vcl (tyl cA) (wR cA a σ) X A s H locs) (hl : lv_has ls 10 [(0, .ref (a 0)), (1, .long x1), (3, .int x3), (6, .int x6), (7, .int x7)]) : W p l e r_R_suffixed s m args below meth c H locs 0 0 Q (F0 m 47 ls [.int s0]) := by
  have hx := fx.1
  have hb := fx.2.1
  unfold f_R_suffixed_47 at h
  refine lv_istore (pc := 47) (lv' := [(8, .int s0), (0, .ref (a 0)), (1, .long x1), (3, .int x3), (6, .int x6), (7, .int x7)]) hx hb d_R_suffixed_47 hl (by decide) rfl (fun ls hl => ?_)
  refine lv_iload (pc := 49) hx hb d_R_suffixed_49 (lv_at hl 5 rfl) ?_
  refine lv_iload (pc := 51) hx hb d_R_suffixed_51 (lv_at hl 0 rfl) ?_
  refine lv_if_le (pc := 53) (tgt := 60) hx hb d_R_suffixed_53 (by decide) (fun c9 => ?_) (fun c9 => ?_)
  · replace h := h.1 c9
    refine lv_iconst (pc := 60) (v := 0) hx hb d_R_suffixed_60 (by decide) ?_
    exact c_R_suffixed_61 hX fx HR h hw (lv_sub hl [1, 2, 3, 4, 0] rfl)
  · replace h := h.2 c9
    refine lv_iconst (pc := 56) (v := 1) hx hb d_R_suffixed_56 (by decide) ?_
    refine lv_goto (pc := 57) (tgt := 61) hx hb d_R_suffixed_57 (by decide) ?_
    exact c_R_suffixed_61 hX fx HR h hw (lv_sub hl [1, 2, 3, 4, 0] rfl)
set_option maxHeartbeats 4000000 in
set_option maxRecDepth 100000 in
theorem e_R_suffixed (hX : XT X) (fx : CallFix p m c b_R_suffixed 10 s args GW RNR) {post : SS → Prop} (HR : RetV p l e r_R_suffixed s m args below meth c Q D vcl (tyl cA) (wR cA a) X A b_R_suffixed post) {σ : SS} {x1 : Int64} {x3 : Int32} {H : Heap} {locs : List Loc} {ls : Array Slot} (h : f_R_suffixed post σ x1 x3) (hw : CX D vcl (tyl cA) (wR cA a σ) X A s H locs) (hl : lv_has ls 10 [(0, .ref (a 0)), (1, .long x1), (3, .int x3)]) : W p l e r_R_suffixed s m args below meth c H locs 0 0 Q (F0 m 0 ls []) := by
  have hx := fx.1
  have hb := fx.2.1
  unfold f_R_suffixed at h
  refine lv_lload_n (pc := 0) hx hb d_R_suffixed_0 rfl (lv_at hl 1 rfl) ?_
  refine lv_iconst (pc := 1) (v := 3) hx hb d_R_suffixed_1 (by decide) ?_
  refine cxSJ (pc := 2) hX fx hw (c_R_front hX h) cw_R_290 rfl ⟨Nat.le_of_ble_eq_true rfl, Nat.le_of_ble_eq_true rfl⟩ hl.1 (Nat.le_of_ble_eq_true rfl) d_R_suffixed_2 ⟨Nat.zero_le _, Nat.zero_le _⟩ (fun r_16 σ_15 H locs hw h => ?_)
  refine lv_lstore (pc := 5) (lv' := [(4, .long r_16), (0, .ref (a 0)), (1, .long x1), (3, .int x3)]) hx hb d_R_suffixed_5 hl (by decide) rfl (fun ls hl => ?_)
  refine lv_lload (pc := 7) hx hb d_R_suffixed_7 (lv_at hl 0 rfl) ?_
  refine cxSI (pc := 9) hX fx hw (c_R_functionOf hX h) cw_R_294 rfl ⟨Nat.le_of_ble_eq_true rfl, Nat.le_of_ble_eq_true rfl⟩ hl.1 (Nat.le_of_ble_eq_true rfl) d_R_suffixed_9 ⟨Nat.zero_le _, Nat.zero_le _⟩ (fun r_18 σ_17 H locs hw h => ?_)
  refine lv_istore (pc := 12) (lv' := [(6, .int r_18), (4, .long r_16), (0, .ref (a 0)), (1, .long x1), (3, .int x3)]) hx hb d_R_suffixed_12 hl (by decide) rfl (fun ls hl => ?_)
  refine lv_iload (pc := 14) hx hb d_R_suffixed_14 (lv_at hl 0 rfl) ?_
  refine lv_if_lt (pc := 16) (tgt := 144) hx hb d_R_suffixed_16 (by decide) (fun c9 => ?_) (fun c9 => ?_)
  · replace h := h.1 c9
    refine lv_lload (pc := 144) hx hb d_R_suffixed_144 (lv_at hl 1 rfl) ?_
    refine lv_ldc2 (pc := 146) (v := 5130575) hx hb fx.2.2.2.1 (fx.2.2.2.2 _ kw_1398) d_R_suffixed_146 ?_
    refine W.lcmp (pc := 149) hx hb d_R_suffixed_149 ?_
    refine lv_if_ne (pc := 150) (tgt := 157) hx hb d_R_suffixed_150 (by decide) (fun c9 => ?_) (fun c9 => ?_)
    · replace h := h.2 c9
      refine lv_lload (pc := 157) hx hb d_R_suffixed_157 (lv_at hl 1 rfl) ?_
      refine cxSI (pc := 159) hX fx hw (c_R_whatOf hX h) cw_R_307 rfl ⟨Nat.le_of_ble_eq_true rfl, Nat.le_of_ble_eq_true rfl⟩ hl.1 (Nat.le_of_ble_eq_true rfl) d_R_suffixed_159 ⟨Nat.zero_le _, Nat.zero_le _⟩ (fun r_20 σ_19 H locs hw h => ?_)
      exact c_R_suffixed_162 hX fx HR h hw (lv_sub hl [2, 3, 4] rfl)
    · replace h := h.1 c9
      refine lv_iconst (pc := 153) (v := 0) hx hb d_R_suffixed_153 (by decide) ?_
      refine lv_goto (pc := 154) (tgt := 162) hx hb d_R_suffixed_154 (by decide) ?_
      exact c_R_suffixed_162 hX fx HR h hw (lv_sub hl [2, 3, 4] rfl)
  · replace h := h.2 c9
    refine lv_iconst (pc := 19) (v := 3) hx hb d_R_suffixed_19 (by decide) ?_
    refine lv_istore (pc := 20) (lv' := [(7, .int 3), (6, .int r_18), (4, .long r_16), (0, .ref (a 0)), (1, .long x1), (3, .int x3)]) hx hb d_R_suffixed_20 hl (by decide) rfl (fun ls hl => ?_)
    refine lv_iload (pc := 22) hx hb d_R_suffixed_22 (lv_at hl 0 rfl) ?_
    refine lv_iload_n (pc := 24) hx hb d_R_suffixed_24 rfl (lv_at hl 5 rfl) ?_
    refine lv_icmp_ge (pc := 25) (tgt := 46) hx hb d_R_suffixed_25 (by decide) (fun c9 => ?_) (fun c9 => ?_)
    · replace h := h.1 c9
      refine lv_iconst (pc := 46) (v := 0) hx hb d_R_suffixed_46 (by decide) ?_
      exact c_R_suffixed_47 hX fx HR h hw (lv_sub hl [3, 4, 5, 1, 0] rfl)
    · replace h := h.2 c9
      refine lv_lload_n (pc := 28) hx hb d_R_suffixed_28 rfl (lv_at hl 4 rfl) ?_
      refine lv_iload (pc := 29) hx hb d_R_suffixed_29 (lv_at hl 0 rfl) ?_
      refine cxSI (pc := 31) hX fx hw (c_R_letter hX h) cw_R_297 rfl ⟨Nat.le_of_ble_eq_true rfl, Nat.le_of_ble_eq_true rfl⟩ hl.1 (Nat.le_of_ble_eq_true rfl) d_R_suffixed_31 ⟨Nat.zero_le _, Nat.zero_le _⟩ (fun r_22 σ_21 H locs hw h => ?_)
      refine lv_bipush (pc := 34) (v := 90) hx hb d_R_suffixed_34 (by decide) ?_
      refine lv_bipush (pc := 36) (v := 79) hx hb d_R_suffixed_36 (by decide) ?_
      refine lv_bipush (pc := 38) (v := 67) hx hb d_R_suffixed_38 (by decide) ?_
      refine cxSI (pc := 40) hX fx hw (c_R_suffix hX h) cw_R_301 rfl ⟨Nat.le_of_ble_eq_true rfl, Nat.le_of_ble_eq_true rfl⟩ hl.1 (Nat.le_of_ble_eq_true rfl) d_R_suffixed_40 ⟨Nat.zero_le _, Nat.zero_le _⟩ (fun r_24 σ_23 H locs hw h => ?_)
      refine lv_goto (pc := 43) (tgt := 47) hx hb d_R_suffixed_43 (by decide) ?_
      exact c_R_suffixed_47 hX fx HR h hw (lv_sub hl [3, 4, 5, 1, 0] rfl)
end
theorem c_R_suffixed {l : Launch} {D : va_G} {cA : Nat → ClassId} {a : Nat → Nat} {X : (Nat → Prop) → State → Prop} (hX : XT X) {σ : SS} {post : SS → Prop} {x1 : Int64} {x3 : Int32} (h : f_R_suffixed post σ x1 x3) : mV l y_R_suffixed b_R_suffixed 10 none 2 52 D vcl (tyl cA) (wR cA a) X σ [.ref (a 0), .long x1, .int x3] post := met_V (by decide) (Nat.le_of_ble_eq_true rfl) (fun p e s m args below meth c A Q fx HR H ls hw hl => e_R_suffixed hX fx HR h hw hl)
abbrev r_R_single : Room := { frames := 0, cells := 0, slots := 0, locals := 0 }
def f_R_single (post : SS → Prop) (σ : SS) (x1 : Int32) (x2 : Int32) : Prop := nm (sI σ 26 x2) fun σ_1 => nm (sI σ_1 27 ((24576 + x1) + 63)) fun σ_2 => post σ_2
section
variable {p : Program} {l : Launch} {e : Env} {s : State} {m : MethodId} {args : Array Value} {below : List Frame} {meth : Method} {c : Code} {Q : State → Prop} {D : va_G} {cA : Nat → ClassId} {a : Nat → Nat} {X : (Nat → Prop) → State → Prop} {A : Nat → Prop}
set_option maxHeartbeats 4000000 in
set_option maxRecDepth 100000 in
theorem e_R_single (hX : XT X) (fx : CallFix p m c b_R_single 3 s args GW RNR) {post : SS → Prop} (HR : RetV p l e r_R_single s m args below meth c Q D vcl (tyl cA) (wR cA a) X A b_R_single post) {σ : SS} {x1 : Int32} {x2 : Int32} {H : Heap} {locs : List Loc} {ls : Array Slot} (h : f_R_single post σ x1 x2) (hw : CX D vcl (tyl cA) (wR cA a σ) X A s H locs) (hl : lv_has ls 3 [(0, .ref (a 0)), (1, .int x1), (2, .int x2)]) : W p l e r_R_single s m args below meth c H locs 0 0 Q (F0 m 0 ls []) := by
  have hx := fx.1
  have hb := fx.2.1
  unfold f_R_single at h
  refine lv_aload_n (pc := 0) hx hb d_R_single_0 rfl (lv_at hl 0 rfl) ?_
  refine lv_iload_n (pc := 1) hx hb d_R_single_1 rfl (lv_at hl 2 rfl) ?_
  refine pR_0_sort (pc := 2) fx hw kw_1111 d_R_single_2 (fun σ_1 e9 H locs hw => ?_)
  replace h := nm_u h e9
  clear e9
  refine lv_aload_n (pc := 5) hx hb d_R_single_5 rfl (lv_at hl 0 rfl) ?_
  refine lv_sipush (pc := 6) (v := 24576) hx hb d_R_single_6 (by decide) ?_
  refine lv_iload_n (pc := 9) hx hb d_R_single_9 rfl (lv_at hl 1 rfl) ?_
  refine lv_iadd (pc := 10) hx hb d_R_single_10 ?_
  refine lv_bipush (pc := 11) (v := 63) hx hb d_R_single_11 (by decide) ?_
  refine lv_iadd (pc := 13) hx hb d_R_single_13 ?_
  refine pR_0_base (pc := 14) fx hw kw_1112 d_R_single_14 (fun σ_2 e9 H locs hw => ?_)
  replace h := nm_u h e9
  clear e9
  exact HR d_R_single_17 h hw
end
theorem c_R_single {l : Launch} {D : va_G} {cA : Nat → ClassId} {a : Nat → Nat} {X : (Nat → Prop) → State → Prop} (hX : XT X) {σ : SS} {post : SS → Prop} {x1 : Int32} {x2 : Int32} (h : f_R_single post σ x1 x2) : mV l y_R_single b_R_single 3 none 0 0 D vcl (tyl cA) (wR cA a) X σ [.ref (a 0), .int x1, .int x2] post := met_V (by decide) (Nat.le_of_ble_eq_true rfl) (fun p e s m args below meth c A Q fx HR H ls hw hl => e_R_single hX fx HR h hw hl)
abbrev r_R_special : Room := { frames := 1, cells := 0, slots := 0, locals := 29 }
def f_R_special_67 (post : SS → Prop) (σ : SS) (x1 : Int64) : Prop := f_R_among (fun r_2 σ_1 => br (0 ≤ r_2) (nm (sI σ_1 26 6) fun σ_3 => nm (sI σ_3 27 (26368 + (64 * r_2))) fun σ_4 => post σ_4) (post σ_1)) σ x1 357745836622 357745836634 357745837134 357745837146
def f_R_special_50 (post : SS → Prop) (σ : SS) (x1 : Int64) : Prop := br ((lg_cmp x1 353349223507) = 0) (f_R_single (fun σ_5 => f_R_special_67 post σ_5 x1) σ 256 9) (f_R_special_67 post σ x1)
def f_R_special_33 (post : SS → Prop) (σ : SS) (x1 : Int64) : Prop := br ((lg_cmp x1 314863407956) = 0) (f_R_single (fun σ_7 => f_R_special_50 post σ_7 x1) σ 1280 8) (f_R_special_50 post σ x1)
def f_R_special_16 (post : SS → Prop) (σ : SS) (x1 : Int64) : Prop := br ((lg_cmp x1 314846757971) = 0) (f_R_single (fun σ_9 => f_R_special_33 post σ_9 x1) σ 128 8) (f_R_special_33 post σ x1)
def f_R_special (post : SS → Prop) (σ : SS) (x1 : Int64) : Prop := br ((lg_cmp x1 314846758222) = 0) (f_R_single (fun σ_11 => f_R_special_16 post σ_11 x1) σ 64 8) (f_R_special_16 post σ x1)
section
variable {p : Program} {l : Launch} {e : Env} {s : State} {m : MethodId} {args : Array Value} {below : List Frame} {meth : Method} {c : Code} {Q : State → Prop} {D : va_G} {cA : Nat → ClassId} {a : Nat → Nat} {X : (Nat → Prop) → State → Prop} {A : Nat → Prop}
set_option maxHeartbeats 4000000 in
set_option maxRecDepth 100000 in
theorem c_R_special_67 (hX : XT X) (fx : CallFix p m c b_R_special 4 s args GW RNR) {post : SS → Prop} (HR : RetV p l e r_R_special s m args below meth c Q D vcl (tyl cA) (wR cA a) X A b_R_special post) {σ : SS} {x1 : Int64} {H : Heap} {locs : List Loc} {ls : Array Slot} (h : f_R_special_67 post σ x1) (hw : CX D vcl (tyl cA) (wR cA a σ) X A s H locs) (hl : lv_has ls 4 [(0, .ref (a 0)), (1, .long x1)]) : W p l e r_R_special s m args below meth c H locs 0 0 Q (F0 m 67 ls []) := by
  have hx := fx.1
  have hb := fx.2.1
  unfold f_R_special_67 at h
  refine lv_lload_n (pc := 67) hx hb d_R_special_67 rfl (lv_at hl 1 rfl) ?_
  refine lv_ldc2 (pc := 68) (v := 357745836622) hx hb fx.2.2.2.1 (fx.2.2.2.2 _ kw_1420) d_R_special_68 ?_
  refine lv_ldc2 (pc := 71) (v := 357745836634) hx hb fx.2.2.2.1 (fx.2.2.2.2 _ kw_1421) d_R_special_71 ?_
  refine lv_ldc2 (pc := 74) (v := 357745837134) hx hb fx.2.2.2.1 (fx.2.2.2.2 _ kw_1422) d_R_special_74 ?_
  refine lv_ldc2 (pc := 77) (v := 357745837146) hx hb fx.2.2.2.1 (fx.2.2.2.2 _ kw_1423) d_R_special_77 ?_
  refine cxSI (pc := 80) hX fx hw (c_R_among hX h) cw_R_210 rfl ⟨Nat.le_of_ble_eq_true rfl, Nat.le_of_ble_eq_true rfl⟩ hl.1 (Nat.le_of_ble_eq_true rfl) d_R_special_80 ⟨Nat.zero_le _, Nat.zero_le _⟩ (fun r_2 σ_1 H locs hw h => ?_)
  refine lv_istore_n (pc := 83) (lv' := [(3, .int r_2), (0, .ref (a 0)), (1, .long x1)]) hx hb d_R_special_83 rfl hl (by decide) rfl (fun ls hl => ?_)
  refine lv_iload_n (pc := 84) hx hb d_R_special_84 rfl (lv_at hl 0 rfl) ?_
  refine lv_if_ge (pc := 85) (tgt := 89) hx hb d_R_special_85 (by decide) (fun c9 => ?_) (fun c9 => ?_)
  · replace h := h.1 c9
    refine lv_aload_n (pc := 89) hx hb d_R_special_89 rfl (lv_at hl 1 rfl) ?_
    refine lv_bipush (pc := 90) (v := 6) hx hb d_R_special_90 (by decide) ?_
    refine pR_0_sort (pc := 92) fx hw kw_1111 d_R_special_92 (fun σ_3 e9 H locs hw => ?_)
    replace h := nm_u h e9
    clear e9
    refine lv_aload_n (pc := 95) hx hb d_R_special_95 rfl (lv_at hl 1 rfl) ?_
    refine lv_sipush (pc := 96) (v := 26368) hx hb d_R_special_96 (by decide) ?_
    refine lv_bipush (pc := 99) (v := 64) hx hb d_R_special_99 (by decide) ?_
    refine lv_iload_n (pc := 101) hx hb d_R_special_101 rfl (lv_at hl 0 rfl) ?_
    refine lv_imul (pc := 102) hx hb d_R_special_102 ?_
    refine lv_iadd (pc := 103) hx hb d_R_special_103 ?_
    refine pR_0_base (pc := 104) fx hw kw_1112 d_R_special_104 (fun σ_4 e9 H locs hw => ?_)
    replace h := nm_u h e9
    clear e9
    exact HR d_R_special_107 h hw
  · replace h := h.2 c9
    exact HR d_R_special_88 h hw
set_option maxHeartbeats 4000000 in
set_option maxRecDepth 100000 in
theorem c_R_special_50 (hX : XT X) (fx : CallFix p m c b_R_special 4 s args GW RNR) {post : SS → Prop} (HR : RetV p l e r_R_special s m args below meth c Q D vcl (tyl cA) (wR cA a) X A b_R_special post) {σ : SS} {x1 : Int64} {H : Heap} {locs : List Loc} {ls : Array Slot} (h : f_R_special_50 post σ x1) (hw : CX D vcl (tyl cA) (wR cA a σ) X A s H locs) (hl : lv_has ls 4 [(0, .ref (a 0)), (1, .long x1)]) : W p l e r_R_special s m args below meth c H locs 0 0 Q (F0 m 50 ls []) := by
  have hx := fx.1
  have hb := fx.2.1
  unfold f_R_special_50 at h
  refine lv_lload_n (pc := 50) hx hb d_R_special_50 rfl (lv_at hl 1 rfl) ?_
  refine lv_ldc2 (pc := 51) (v := 353349223507) hx hb fx.2.2.2.1 (fx.2.2.2.2 _ kw_1419) d_R_special_51 ?_
  refine W.lcmp (pc := 54) hx hb d_R_special_54 ?_
  refine lv_if_ne (pc := 55) (tgt := 67) hx hb d_R_special_55 (by decide) (fun c9 => ?_) (fun c9 => ?_)
  · replace h := h.2 c9
    exact c_R_special_67 hX fx HR h hw (lv_sub hl [0, 1] rfl)
  · replace h := h.1 c9
    refine lv_aload_n (pc := 58) hx hb d_R_special_58 rfl (lv_at hl 0 rfl) ?_
    refine lv_sipush (pc := 59) (v := 256) hx hb d_R_special_59 (by decide) ?_
    refine lv_bipush (pc := 62) (v := 9) hx hb d_R_special_62 (by decide) ?_
    refine cxU (pc := 64) hX fx hw (c_R_single hX h) cw_R_266 (rcR_0 hw) rfl ⟨Nat.le_of_ble_eq_true rfl, Nat.le_of_ble_eq_true rfl⟩ hl.1 (Nat.le_of_ble_eq_true rfl) d_R_special_64 ⟨Nat.zero_le _, Nat.zero_le _⟩ (fun σ_5 H locs hw h => ?_)
    exact c_R_special_67 hX fx HR h hw (lv_sub hl [0, 1] rfl)
set_option maxHeartbeats 4000000 in
set_option maxRecDepth 100000 in
theorem c_R_special_33 (hX : XT X) (fx : CallFix p m c b_R_special 4 s args GW RNR) {post : SS → Prop} (HR : RetV p l e r_R_special s m args below meth c Q D vcl (tyl cA) (wR cA a) X A b_R_special post) {σ : SS} {x1 : Int64} {H : Heap} {locs : List Loc} {ls : Array Slot} (h : f_R_special_33 post σ x1) (hw : CX D vcl (tyl cA) (wR cA a σ) X A s H locs) (hl : lv_has ls 4 [(0, .ref (a 0)), (1, .long x1)]) : W p l e r_R_special s m args below meth c H locs 0 0 Q (F0 m 33 ls []) := by
  have hx := fx.1
  have hb := fx.2.1
  unfold f_R_special_33 at h
  refine lv_lload_n (pc := 33) hx hb d_R_special_33 rfl (lv_at hl 1 rfl) ?_
  refine lv_ldc2 (pc := 34) (v := 314863407956) hx hb fx.2.2.2.1 (fx.2.2.2.2 _ kw_1418) d_R_special_34 ?_
  refine W.lcmp (pc := 37) hx hb d_R_special_37 ?_
  refine lv_if_ne (pc := 38) (tgt := 50) hx hb d_R_special_38 (by decide) (fun c9 => ?_) (fun c9 => ?_)
  · replace h := h.2 c9
    exact c_R_special_50 hX fx HR h hw (lv_sub hl [0, 1] rfl)
  · replace h := h.1 c9
    refine lv_aload_n (pc := 41) hx hb d_R_special_41 rfl (lv_at hl 0 rfl) ?_
    refine lv_sipush (pc := 42) (v := 1280) hx hb d_R_special_42 (by decide) ?_
    refine lv_bipush (pc := 45) (v := 8) hx hb d_R_special_45 (by decide) ?_
    refine cxU (pc := 47) hX fx hw (c_R_single hX h) cw_R_266 (rcR_0 hw) rfl ⟨Nat.le_of_ble_eq_true rfl, Nat.le_of_ble_eq_true rfl⟩ hl.1 (Nat.le_of_ble_eq_true rfl) d_R_special_47 ⟨Nat.zero_le _, Nat.zero_le _⟩ (fun σ_7 H locs hw h => ?_)
    exact c_R_special_50 hX fx HR h hw (lv_sub hl [0, 1] rfl)
set_option maxHeartbeats 4000000 in
set_option maxRecDepth 100000 in
theorem c_R_special_16 (hX : XT X) (fx : CallFix p m c b_R_special 4 s args GW RNR) {post : SS → Prop} (HR : RetV p l e r_R_special s m args below meth c Q D vcl (tyl cA) (wR cA a) X A b_R_special post) {σ : SS} {x1 : Int64} {H : Heap} {locs : List Loc} {ls : Array Slot} (h : f_R_special_16 post σ x1) (hw : CX D vcl (tyl cA) (wR cA a σ) X A s H locs) (hl : lv_has ls 4 [(0, .ref (a 0)), (1, .long x1)]) : W p l e r_R_special s m args below meth c H locs 0 0 Q (F0 m 16 ls []) := by
  have hx := fx.1
  have hb := fx.2.1
  unfold f_R_special_16 at h
  refine lv_lload_n (pc := 16) hx hb d_R_special_16 rfl (lv_at hl 1 rfl) ?_
  refine lv_ldc2 (pc := 17) (v := 314846757971) hx hb fx.2.2.2.1 (fx.2.2.2.2 _ kw_1417) d_R_special_17 ?_
  refine W.lcmp (pc := 20) hx hb d_R_special_20 ?_
  refine lv_if_ne (pc := 21) (tgt := 33) hx hb d_R_special_21 (by decide) (fun c9 => ?_) (fun c9 => ?_)
  · replace h := h.2 c9
    exact c_R_special_33 hX fx HR h hw (lv_sub hl [0, 1] rfl)
  · replace h := h.1 c9
    refine lv_aload_n (pc := 24) hx hb d_R_special_24 rfl (lv_at hl 0 rfl) ?_
    refine lv_sipush (pc := 25) (v := 128) hx hb d_R_special_25 (by decide) ?_
    refine lv_bipush (pc := 28) (v := 8) hx hb d_R_special_28 (by decide) ?_
    refine cxU (pc := 30) hX fx hw (c_R_single hX h) cw_R_266 (rcR_0 hw) rfl ⟨Nat.le_of_ble_eq_true rfl, Nat.le_of_ble_eq_true rfl⟩ hl.1 (Nat.le_of_ble_eq_true rfl) d_R_special_30 ⟨Nat.zero_le _, Nat.zero_le _⟩ (fun σ_9 H locs hw h => ?_)
    exact c_R_special_33 hX fx HR h hw (lv_sub hl [0, 1] rfl)
set_option maxHeartbeats 4000000 in
set_option maxRecDepth 100000 in
theorem e_R_special (hX : XT X) (fx : CallFix p m c b_R_special 4 s args GW RNR) {post : SS → Prop} (HR : RetV p l e r_R_special s m args below meth c Q D vcl (tyl cA) (wR cA a) X A b_R_special post) {σ : SS} {x1 : Int64} {H : Heap} {locs : List Loc} {ls : Array Slot} (h : f_R_special post σ x1) (hw : CX D vcl (tyl cA) (wR cA a σ) X A s H locs) (hl : lv_has ls 4 [(0, .ref (a 0)), (1, .long x1)]) : W p l e r_R_special s m args below meth c H locs 0 0 Q (F0 m 0 ls []) := by
  have hx := fx.1
  have hb := fx.2.1
  unfold f_R_special at h
  refine lv_lload_n (pc := 0) hx hb d_R_special_0 rfl (lv_at hl 1 rfl) ?_
  refine lv_ldc2 (pc := 1) (v := 314846758222) hx hb fx.2.2.2.1 (fx.2.2.2.2 _ kw_1412) d_R_special_1 ?_
  refine W.lcmp (pc := 4) hx hb d_R_special_4 ?_
  refine lv_if_ne (pc := 5) (tgt := 16) hx hb d_R_special_5 (by decide) (fun c9 => ?_) (fun c9 => ?_)
  · replace h := h.2 c9
    exact c_R_special_16 hX fx HR h hw (lv_sub hl [0, 1] rfl)
  · replace h := h.1 c9
    refine lv_aload_n (pc := 8) hx hb d_R_special_8 rfl (lv_at hl 0 rfl) ?_
    refine lv_bipush (pc := 9) (v := 64) hx hb d_R_special_9 (by decide) ?_
    refine lv_bipush (pc := 11) (v := 8) hx hb d_R_special_11 (by decide) ?_
    refine cxU (pc := 13) hX fx hw (c_R_single hX h) cw_R_266 (rcR_0 hw) rfl ⟨Nat.le_of_ble_eq_true rfl, Nat.le_of_ble_eq_true rfl⟩ hl.1 (Nat.le_of_ble_eq_true rfl) d_R_special_13 ⟨Nat.zero_le _, Nat.zero_le _⟩ (fun σ_11 H locs hw h => ?_)
    exact c_R_special_16 hX fx HR h hw (lv_sub hl [0, 1] rfl)
end
theorem c_R_special {l : Launch} {D : va_G} {cA : Nat → ClassId} {a : Nat → Nat} {X : (Nat → Prop) → State → Prop} (hX : XT X) {σ : SS} {post : SS → Prop} {x1 : Int64} (h : f_R_special post σ x1) : mV l y_R_special b_R_special 4 none 1 29 D vcl (tyl cA) (wR cA a) X σ [.ref (a 0), .long x1] post := met_V (by decide) (Nat.le_of_ble_eq_true rfl) (fun p e s m args below meth c A Q fx HR H ls hw hl => e_R_special hX fx HR h hw hl)
abbrev r_R_classify : Room := { frames := 3, cells := 0, slots := 0, locals := 81 }
def f_R_classify_181 (post : SS → Prop) (σ : SS) (x1 : Int64) : Prop := br ((lg_cmp x1 1297304399) = 0) (f_R_single (fun σ_1 => post σ_1) σ 1024 9) (post σ)
def f_R_classify_164 (post : SS → Prop) (σ : SS) (x1 : Int64) : Prop := br ((lg_cmp x1 1229870145) = 0) (f_R_single (fun σ_3 => f_R_classify_181 post σ_3 x1) σ 768 9) (f_R_classify_181 post σ x1)
def f_R_classify_147 (post : SS → Prop) (σ : SS) (x1 : Int64) : Prop := br ((lg_cmp x1 1212238932) = 0) (f_R_single (fun σ_5 => f_R_classify_164 post σ_5 x1) σ 1536 8) (f_R_classify_164 post σ x1)
def f_R_classify_137 (post : SS → Prop) (σ : SS) (x1 : Int64) (x3 : Int32) : Prop := br (x3 = 5) (f_R_special (fun σ_7 => f_R_classify_147 post σ_7 x1) σ x1) (f_R_classify_147 post σ x1)
def f_R_classify_121 (post : SS → Prop) (σ : SS) (x1 : Int64) (x3 : Int32) : Prop := br (x3 < 3) (f_R_classify_137 post σ x1 x3) (br (5 < x3) (f_R_classify_137 post σ x1 x3) (f_R_suffixed (fun σ_9 => f_R_classify_137 post σ_9 x1 x3) σ x1 x3))
def f_R_classify_118 (post : SS → Prop) (σ : SS) (x1 : Int64) (x3 : Int32) (s0 : Int32) : Prop := nm (sI σ 27 s0) fun σ_11 => f_R_classify_121 post σ_11 x1 x3
def f_R_classify_95 (post : SS → Prop) (σ : SS) (x1 : Int64) (x3 : Int32) : Prop := nm (sI σ 26 4) fun σ_12 => br ((lg_cmp x1 4998209) = 0) (f_R_classify_118 post σ_12 x1 x3 8192) (f_R_classify_118 post σ_12 x1 x3 16384)
def f_R_classify_79 (post : SS → Prop) (σ : SS) (x1 : Int64) (x3 : Int32) : Prop := br ((lg_cmp x1 4998209) = 0) (f_R_classify_95 post σ x1 x3) (br ((lg_cmp x1 5461057) = 0) (f_R_classify_95 post σ x1 x3) (f_R_classify_121 post σ x1 x3))
def f_R_classify_41 (post : SS → Prop) (σ : SS) (x1 : Int64) (x3 : Int32) : Prop := f_R_among (fun r_14 σ_13 => br (r_14 < 0) (f_R_classify_79 post σ_13 x1 x3) (nm (sI σ_13 26 3) fun σ_15 => nm (sI σ_15 27 (2048 * r_14)) fun σ_16 => f_R_classify_79 post σ_16 x1 x3)) σ x1 4869456 4870994 4805466 4477786
def f_R_classify_28 (post : SS → Prop) (σ : SS) (x1 : Int64) (x3 : Int32) : Prop := br ((lg_cmp x1 776096843) = 0) (nm (sI σ 26 2) fun σ_17 => f_R_classify_41 post σ_17 x1 x3) (f_R_classify_41 post σ x1 x3)
def f_R_classify (post : SS → Prop) (σ : SS) (x1 : Int64) : Prop := nm (sI σ 26 0) fun σ_18 => nm (sI σ_18 27 0) fun σ_19 => f_R_sizeOf (fun r_21 σ_20 => br ((lg_cmp x1 776752963) = 0) (nm (sI σ_20 26 1) fun σ_22 => f_R_classify_28 post σ_22 x1 r_21) (f_R_classify_28 post σ_20 x1 r_21)) σ_19 x1
section
variable {p : Program} {l : Launch} {e : Env} {s : State} {m : MethodId} {args : Array Value} {below : List Frame} {meth : Method} {c : Code} {Q : State → Prop} {D : va_G} {cA : Nat → ClassId} {a : Nat → Nat} {X : (Nat → Prop) → State → Prop} {A : Nat → Prop}
set_option maxHeartbeats 4000000 in
set_option maxRecDepth 100000 in
theorem c_R_classify_181 (hX : XT X) (fx : CallFix p m c b_R_classify 5 s args GW RNR) {post : SS → Prop} (HR : RetV p l e r_R_classify s m args below meth c Q D vcl (tyl cA) (wR cA a) X A b_R_classify post) {σ : SS} {x1 : Int64} {H : Heap} {locs : List Loc} {ls : Array Slot} (h : f_R_classify_181 post σ x1) (hw : CX D vcl (tyl cA) (wR cA a σ) X A s H locs) (hl : lv_has ls 5 [(0, .ref (a 0)), (1, .long x1)]) : W p l e r_R_classify s m args below meth c H locs 0 0 Q (F0 m 181 ls []) := by
  have hx := fx.1
  have hb := fx.2.1
  unfold f_R_classify_181 at h
  refine lv_lload_n (pc := 181) hx hb d_R_classify_181 rfl (lv_at hl 1 rfl) ?_
  refine lv_ldc2 (pc := 182) (v := 1297304399) hx hb fx.2.2.2.1 (fx.2.2.2.2 _ kw_1426) d_R_classify_182 ?_
  refine W.lcmp (pc := 185) hx hb d_R_classify_185 ?_
  refine lv_if_ne (pc := 186) (tgt := 198) hx hb d_R_classify_186 (by decide) (fun c9 => ?_) (fun c9 => ?_)
  · replace h := h.2 c9
    exact HR d_R_classify_198 h hw
  · replace h := h.1 c9
    refine lv_aload_n (pc := 189) hx hb d_R_classify_189 rfl (lv_at hl 0 rfl) ?_
    refine lv_sipush (pc := 190) (v := 1024) hx hb d_R_classify_190 (by decide) ?_
    refine lv_bipush (pc := 193) (v := 9) hx hb d_R_classify_193 (by decide) ?_
    refine cxU (pc := 195) hX fx hw (c_R_single hX h) cw_R_266 (rcR_0 hw) rfl ⟨Nat.le_of_ble_eq_true rfl, Nat.le_of_ble_eq_true rfl⟩ hl.1 (Nat.le_of_ble_eq_true rfl) d_R_classify_195 ⟨Nat.zero_le _, Nat.zero_le _⟩ (fun σ_1 H locs hw h => ?_)
    exact HR d_R_classify_198 h hw
set_option maxHeartbeats 4000000 in
set_option maxRecDepth 100000 in
theorem c_R_classify_164 (hX : XT X) (fx : CallFix p m c b_R_classify 5 s args GW RNR) {post : SS → Prop} (HR : RetV p l e r_R_classify s m args below meth c Q D vcl (tyl cA) (wR cA a) X A b_R_classify post) {σ : SS} {x1 : Int64} {H : Heap} {locs : List Loc} {ls : Array Slot} (h : f_R_classify_164 post σ x1) (hw : CX D vcl (tyl cA) (wR cA a σ) X A s H locs) (hl : lv_has ls 5 [(0, .ref (a 0)), (1, .long x1)]) : W p l e r_R_classify s m args below meth c H locs 0 0 Q (F0 m 164 ls []) := by
  have hx := fx.1
  have hb := fx.2.1
  unfold f_R_classify_164 at h
  refine lv_lload_n (pc := 164) hx hb d_R_classify_164 rfl (lv_at hl 1 rfl) ?_
  refine lv_ldc2 (pc := 165) (v := 1229870145) hx hb fx.2.2.2.1 (fx.2.2.2.2 _ kw_1425) d_R_classify_165 ?_
  refine W.lcmp (pc := 168) hx hb d_R_classify_168 ?_
  refine lv_if_ne (pc := 169) (tgt := 181) hx hb d_R_classify_169 (by decide) (fun c9 => ?_) (fun c9 => ?_)
  · replace h := h.2 c9
    exact c_R_classify_181 hX fx HR h hw (lv_sub hl [0, 1] rfl)
  · replace h := h.1 c9
    refine lv_aload_n (pc := 172) hx hb d_R_classify_172 rfl (lv_at hl 0 rfl) ?_
    refine lv_sipush (pc := 173) (v := 768) hx hb d_R_classify_173 (by decide) ?_
    refine lv_bipush (pc := 176) (v := 9) hx hb d_R_classify_176 (by decide) ?_
    refine cxU (pc := 178) hX fx hw (c_R_single hX h) cw_R_266 (rcR_0 hw) rfl ⟨Nat.le_of_ble_eq_true rfl, Nat.le_of_ble_eq_true rfl⟩ hl.1 (Nat.le_of_ble_eq_true rfl) d_R_classify_178 ⟨Nat.zero_le _, Nat.zero_le _⟩ (fun σ_3 H locs hw h => ?_)
    exact c_R_classify_181 hX fx HR h hw (lv_sub hl [0, 1] rfl)
set_option maxHeartbeats 4000000 in
set_option maxRecDepth 100000 in
theorem c_R_classify_147 (hX : XT X) (fx : CallFix p m c b_R_classify 5 s args GW RNR) {post : SS → Prop} (HR : RetV p l e r_R_classify s m args below meth c Q D vcl (tyl cA) (wR cA a) X A b_R_classify post) {σ : SS} {x1 : Int64} {H : Heap} {locs : List Loc} {ls : Array Slot} (h : f_R_classify_147 post σ x1) (hw : CX D vcl (tyl cA) (wR cA a σ) X A s H locs) (hl : lv_has ls 5 [(0, .ref (a 0)), (1, .long x1)]) : W p l e r_R_classify s m args below meth c H locs 0 0 Q (F0 m 147 ls []) := by
  have hx := fx.1
  have hb := fx.2.1
  unfold f_R_classify_147 at h
  refine lv_lload_n (pc := 147) hx hb d_R_classify_147 rfl (lv_at hl 1 rfl) ?_
  refine lv_ldc2 (pc := 148) (v := 1212238932) hx hb fx.2.2.2.1 (fx.2.2.2.2 _ kw_1424) d_R_classify_148 ?_
  refine W.lcmp (pc := 151) hx hb d_R_classify_151 ?_
  refine lv_if_ne (pc := 152) (tgt := 164) hx hb d_R_classify_152 (by decide) (fun c9 => ?_) (fun c9 => ?_)
  · replace h := h.2 c9
    exact c_R_classify_164 hX fx HR h hw (lv_sub hl [0, 1] rfl)
  · replace h := h.1 c9
    refine lv_aload_n (pc := 155) hx hb d_R_classify_155 rfl (lv_at hl 0 rfl) ?_
    refine lv_sipush (pc := 156) (v := 1536) hx hb d_R_classify_156 (by decide) ?_
    refine lv_bipush (pc := 159) (v := 8) hx hb d_R_classify_159 (by decide) ?_
    refine cxU (pc := 161) hX fx hw (c_R_single hX h) cw_R_266 (rcR_0 hw) rfl ⟨Nat.le_of_ble_eq_true rfl, Nat.le_of_ble_eq_true rfl⟩ hl.1 (Nat.le_of_ble_eq_true rfl) d_R_classify_161 ⟨Nat.zero_le _, Nat.zero_le _⟩ (fun σ_5 H locs hw h => ?_)
    exact c_R_classify_164 hX fx HR h hw (lv_sub hl [0, 1] rfl)
set_option maxHeartbeats 4000000 in
set_option maxRecDepth 100000 in
theorem c_R_classify_137 (hX : XT X) (fx : CallFix p m c b_R_classify 5 s args GW RNR) {post : SS → Prop} (HR : RetV p l e r_R_classify s m args below meth c Q D vcl (tyl cA) (wR cA a) X A b_R_classify post) {σ : SS} {x1 : Int64} {x3 : Int32} {H : Heap} {locs : List Loc} {ls : Array Slot} (h : f_R_classify_137 post σ x1 x3) (hw : CX D vcl (tyl cA) (wR cA a σ) X A s H locs) (hl : lv_has ls 5 [(0, .ref (a 0)), (1, .long x1), (3, .int x3)]) : W p l e r_R_classify s m args below meth c H locs 0 0 Q (F0 m 137 ls []) := by
  have hx := fx.1
  have hb := fx.2.1
  unfold f_R_classify_137 at h
  refine lv_iload_n (pc := 137) hx hb d_R_classify_137 rfl (lv_at hl 2 rfl) ?_
  refine lv_iconst (pc := 138) (v := 5) hx hb d_R_classify_138 (by decide) ?_
  refine lv_icmp_ne (pc := 139) (tgt := 147) hx hb d_R_classify_139 (by decide) (fun c9 => ?_) (fun c9 => ?_)
  · replace h := h.2 c9
    exact c_R_classify_147 hX fx HR h hw (lv_sub hl [0, 1] rfl)
  · replace h := h.1 c9
    refine lv_aload_n (pc := 142) hx hb d_R_classify_142 rfl (lv_at hl 0 rfl) ?_
    refine lv_lload_n (pc := 143) hx hb d_R_classify_143 rfl (lv_at hl 1 rfl) ?_
    refine cxU (pc := 144) hX fx hw (c_R_special hX h) cw_R_260 (rcR_0 hw) rfl ⟨Nat.le_of_ble_eq_true rfl, Nat.le_of_ble_eq_true rfl⟩ hl.1 (Nat.le_of_ble_eq_true rfl) d_R_classify_144 ⟨Nat.zero_le _, Nat.zero_le _⟩ (fun σ_7 H locs hw h => ?_)
    exact c_R_classify_147 hX fx HR h hw (lv_sub hl [0, 1] rfl)
set_option maxHeartbeats 4000000 in
set_option maxRecDepth 100000 in
theorem c_R_classify_121 (hX : XT X) (fx : CallFix p m c b_R_classify 5 s args GW RNR) {post : SS → Prop} (HR : RetV p l e r_R_classify s m args below meth c Q D vcl (tyl cA) (wR cA a) X A b_R_classify post) {σ : SS} {x1 : Int64} {x3 : Int32} {H : Heap} {locs : List Loc} {ls : Array Slot} (h : f_R_classify_121 post σ x1 x3) (hw : CX D vcl (tyl cA) (wR cA a σ) X A s H locs) (hl : lv_has ls 5 [(0, .ref (a 0)), (1, .long x1), (3, .int x3)]) : W p l e r_R_classify s m args below meth c H locs 0 0 Q (F0 m 121 ls []) := by
  have hx := fx.1
  have hb := fx.2.1
  unfold f_R_classify_121 at h
  refine lv_iload_n (pc := 121) hx hb d_R_classify_121 rfl (lv_at hl 2 rfl) ?_
  refine lv_iconst (pc := 122) (v := 3) hx hb d_R_classify_122 (by decide) ?_
  refine lv_icmp_lt (pc := 123) (tgt := 137) hx hb d_R_classify_123 (by decide) (fun c9 => ?_) (fun c9 => ?_)
  · replace h := h.1 c9
    exact c_R_classify_137 hX fx HR h hw (lv_sub hl [0, 1, 2] rfl)
  · replace h := h.2 c9
    refine lv_iload_n (pc := 126) hx hb d_R_classify_126 rfl (lv_at hl 2 rfl) ?_
    refine lv_iconst (pc := 127) (v := 5) hx hb d_R_classify_127 (by decide) ?_
    refine lv_icmp_gt (pc := 128) (tgt := 137) hx hb d_R_classify_128 (by decide) (fun c9 => ?_) (fun c9 => ?_)
    · replace h := h.1 c9
      exact c_R_classify_137 hX fx HR h hw (lv_sub hl [0, 1, 2] rfl)
    · replace h := h.2 c9
      refine lv_aload_n (pc := 131) hx hb d_R_classify_131 rfl (lv_at hl 0 rfl) ?_
      refine lv_lload_n (pc := 132) hx hb d_R_classify_132 rfl (lv_at hl 1 rfl) ?_
      refine lv_iload_n (pc := 133) hx hb d_R_classify_133 rfl (lv_at hl 2 rfl) ?_
      refine cxU (pc := 134) hX fx hw (c_R_suffixed hX h) cw_R_256 (rcR_0 hw) rfl ⟨Nat.le_of_ble_eq_true rfl, Nat.le_of_ble_eq_true rfl⟩ hl.1 (Nat.le_of_ble_eq_true rfl) d_R_classify_134 ⟨Nat.zero_le _, Nat.zero_le _⟩ (fun σ_9 H locs hw h => ?_)
      exact c_R_classify_137 hX fx HR h hw (lv_sub hl [0, 1, 2] rfl)
set_option maxHeartbeats 4000000 in
set_option maxRecDepth 100000 in
theorem c_R_classify_118 (hX : XT X) (fx : CallFix p m c b_R_classify 5 s args GW RNR) {post : SS → Prop} (HR : RetV p l e r_R_classify s m args below meth c Q D vcl (tyl cA) (wR cA a) X A b_R_classify post) {σ : SS} {x1 : Int64} {x3 : Int32} {s0 : Int32} {H : Heap} {locs : List Loc} {ls : Array Slot} (h : f_R_classify_118 post σ x1 x3 s0) (hw : CX D vcl (tyl cA) (wR cA a σ) X A s H locs) (hl : lv_has ls 5 [(0, .ref (a 0)), (1, .long x1), (3, .int x3)]) : W p l e r_R_classify s m args below meth c H locs 0 0 Q (F0 m 118 ls [.int s0, .ref (a 0)]) := by
  have hx := fx.1
  have hb := fx.2.1
  unfold f_R_classify_118 at h
  refine pR_0_base (pc := 118) fx hw kw_1112 d_R_classify_118 (fun σ_11 e9 H locs hw => ?_)
  replace h := nm_u h e9
  clear e9
  exact c_R_classify_121 hX fx HR h hw (lv_sub hl [0, 1, 2] rfl)
set_option maxHeartbeats 4000000 in
set_option maxRecDepth 100000 in
theorem c_R_classify_95 (hX : XT X) (fx : CallFix p m c b_R_classify 5 s args GW RNR) {post : SS → Prop} (HR : RetV p l e r_R_classify s m args below meth c Q D vcl (tyl cA) (wR cA a) X A b_R_classify post) {σ : SS} {x1 : Int64} {x3 : Int32} {H : Heap} {locs : List Loc} {ls : Array Slot} (h : f_R_classify_95 post σ x1 x3) (hw : CX D vcl (tyl cA) (wR cA a σ) X A s H locs) (hl : lv_has ls 5 [(0, .ref (a 0)), (1, .long x1), (3, .int x3)]) : W p l e r_R_classify s m args below meth c H locs 0 0 Q (F0 m 95 ls []) := by
  have hx := fx.1
  have hb := fx.2.1
  unfold f_R_classify_95 at h
  refine lv_aload_n (pc := 95) hx hb d_R_classify_95 rfl (lv_at hl 0 rfl) ?_
  refine lv_iconst (pc := 96) (v := 4) hx hb d_R_classify_96 (by decide) ?_
  refine pR_0_sort (pc := 97) fx hw kw_1111 d_R_classify_97 (fun σ_12 e9 H locs hw => ?_)
  replace h := nm_u h e9
  clear e9
  refine lv_aload_n (pc := 100) hx hb d_R_classify_100 rfl (lv_at hl 0 rfl) ?_
  refine lv_lload_n (pc := 101) hx hb d_R_classify_101 rfl (lv_at hl 1 rfl) ?_
  refine lv_ldc2 (pc := 102) (v := 4998209) hx hb fx.2.2.2.1 (fx.2.2.2.2 _ kw_1372) d_R_classify_102 ?_
  refine W.lcmp (pc := 105) hx hb d_R_classify_105 ?_
  refine lv_if_ne (pc := 106) (tgt := 115) hx hb d_R_classify_106 (by decide) (fun c9 => ?_) (fun c9 => ?_)
  · replace h := h.2 c9
    refine lv_sipush (pc := 115) (v := 16384) hx hb d_R_classify_115 (by decide) ?_
    exact c_R_classify_118 hX fx HR h hw (lv_sub hl [0, 1, 2] rfl)
  · replace h := h.1 c9
    refine lv_sipush (pc := 109) (v := 8192) hx hb d_R_classify_109 (by decide) ?_
    refine lv_goto (pc := 112) (tgt := 118) hx hb d_R_classify_112 (by decide) ?_
    exact c_R_classify_118 hX fx HR h hw (lv_sub hl [0, 1, 2] rfl)
set_option maxHeartbeats 4000000 in
set_option maxRecDepth 100000 in
theorem c_R_classify_79 (hX : XT X) (fx : CallFix p m c b_R_classify 5 s args GW RNR) {post : SS → Prop} (HR : RetV p l e r_R_classify s m args below meth c Q D vcl (tyl cA) (wR cA a) X A b_R_classify post) {σ : SS} {x1 : Int64} {x3 : Int32} {H : Heap} {locs : List Loc} {ls : Array Slot} (h : f_R_classify_79 post σ x1 x3) (hw : CX D vcl (tyl cA) (wR cA a σ) X A s H locs) (hl : lv_has ls 5 [(0, .ref (a 0)), (1, .long x1), (3, .int x3)]) : W p l e r_R_classify s m args below meth c H locs 0 0 Q (F0 m 79 ls []) := by
  have hx := fx.1
  have hb := fx.2.1
  unfold f_R_classify_79 at h
  refine lv_lload_n (pc := 79) hx hb d_R_classify_79 rfl (lv_at hl 1 rfl) ?_
  refine lv_ldc2 (pc := 80) (v := 4998209) hx hb fx.2.2.2.1 (fx.2.2.2.2 _ kw_1372) d_R_classify_80 ?_
  refine W.lcmp (pc := 83) hx hb d_R_classify_83 ?_
  refine lv_if_eq (pc := 84) (tgt := 95) hx hb d_R_classify_84 (by decide) (fun c9 => ?_) (fun c9 => ?_)
  · replace h := h.1 c9
    exact c_R_classify_95 hX fx HR h hw (lv_sub hl [0, 1, 2] rfl)
  · replace h := h.2 c9
    refine lv_lload_n (pc := 87) hx hb d_R_classify_87 rfl (lv_at hl 1 rfl) ?_
    refine lv_ldc2 (pc := 88) (v := 5461057) hx hb fx.2.2.2.1 (fx.2.2.2.2 _ kw_1373) d_R_classify_88 ?_
    refine W.lcmp (pc := 91) hx hb d_R_classify_91 ?_
    refine lv_if_ne (pc := 92) (tgt := 121) hx hb d_R_classify_92 (by decide) (fun c9 => ?_) (fun c9 => ?_)
    · replace h := h.2 c9
      exact c_R_classify_121 hX fx HR h hw (lv_sub hl [0, 1, 2] rfl)
    · replace h := h.1 c9
      exact c_R_classify_95 hX fx HR h hw (lv_sub hl [0, 1, 2] rfl)
set_option maxHeartbeats 4000000 in
set_option maxRecDepth 100000 in
theorem c_R_classify_41 (hX : XT X) (fx : CallFix p m c b_R_classify 5 s args GW RNR) {post : SS → Prop} (HR : RetV p l e r_R_classify s m args below meth c Q D vcl (tyl cA) (wR cA a) X A b_R_classify post) {σ : SS} {x1 : Int64} {x3 : Int32} {H : Heap} {locs : List Loc} {ls : Array Slot} (h : f_R_classify_41 post σ x1 x3) (hw : CX D vcl (tyl cA) (wR cA a σ) X A s H locs) (hl : lv_has ls 5 [(0, .ref (a 0)), (1, .long x1), (3, .int x3)]) : W p l e r_R_classify s m args below meth c H locs 0 0 Q (F0 m 41 ls []) := by
  have hx := fx.1
  have hb := fx.2.1
  unfold f_R_classify_41 at h
  refine lv_lload_n (pc := 41) hx hb d_R_classify_41 rfl (lv_at hl 1 rfl) ?_
  refine lv_ldc2 (pc := 42) (v := 4869456) hx hb fx.2.2.2.1 (fx.2.2.2.2 _ kw_1365) d_R_classify_42 ?_
  refine lv_ldc2 (pc := 45) (v := 4870994) hx hb fx.2.2.2.1 (fx.2.2.2.2 _ kw_1366) d_R_classify_45 ?_
  refine lv_ldc2 (pc := 48) (v := 4805466) hx hb fx.2.2.2.1 (fx.2.2.2.2 _ kw_1367) d_R_classify_48 ?_
  refine lv_ldc2 (pc := 51) (v := 4477786) hx hb fx.2.2.2.1 (fx.2.2.2.2 _ kw_1368) d_R_classify_51 ?_
  refine cxSI (pc := 54) hX fx hw (c_R_among hX h) cw_R_210 rfl ⟨Nat.le_of_ble_eq_true rfl, Nat.le_of_ble_eq_true rfl⟩ hl.1 (Nat.le_of_ble_eq_true rfl) d_R_classify_54 ⟨Nat.zero_le _, Nat.zero_le _⟩ (fun r_14 σ_13 H locs hw h => ?_)
  refine lv_istore (pc := 57) (lv' := [(4, .int r_14), (0, .ref (a 0)), (1, .long x1), (3, .int x3)]) hx hb d_R_classify_57 hl (by decide) rfl (fun ls hl => ?_)
  refine lv_iload (pc := 59) hx hb d_R_classify_59 (lv_at hl 0 rfl) ?_
  refine lv_if_lt (pc := 61) (tgt := 79) hx hb d_R_classify_61 (by decide) (fun c9 => ?_) (fun c9 => ?_)
  · replace h := h.1 c9
    exact c_R_classify_79 hX fx HR h hw (lv_sub hl [1, 2, 3] rfl)
  · replace h := h.2 c9
    refine lv_aload_n (pc := 64) hx hb d_R_classify_64 rfl (lv_at hl 1 rfl) ?_
    refine lv_iconst (pc := 65) (v := 3) hx hb d_R_classify_65 (by decide) ?_
    refine pR_0_sort (pc := 66) fx hw kw_1111 d_R_classify_66 (fun σ_15 e9 H locs hw => ?_)
    replace h := nm_u h e9
    clear e9
    refine lv_aload_n (pc := 69) hx hb d_R_classify_69 rfl (lv_at hl 1 rfl) ?_
    refine lv_sipush (pc := 70) (v := 2048) hx hb d_R_classify_70 (by decide) ?_
    refine lv_iload (pc := 73) hx hb d_R_classify_73 (lv_at hl 0 rfl) ?_
    refine lv_imul (pc := 75) hx hb d_R_classify_75 ?_
    refine pR_0_base (pc := 76) fx hw kw_1112 d_R_classify_76 (fun σ_16 e9 H locs hw => ?_)
    replace h := nm_u h e9
    clear e9
    exact c_R_classify_79 hX fx HR h hw (lv_sub hl [1, 2, 3] rfl)
set_option maxHeartbeats 4000000 in
set_option maxRecDepth 100000 in
theorem c_R_classify_28 (hX : XT X) (fx : CallFix p m c b_R_classify 5 s args GW RNR) {post : SS → Prop} (HR : RetV p l e r_R_classify s m args below meth c Q D vcl (tyl cA) (wR cA a) X A b_R_classify post) {σ : SS} {x1 : Int64} {x3 : Int32} {H : Heap} {locs : List Loc} {ls : Array Slot} (h : f_R_classify_28 post σ x1 x3) (hw : CX D vcl (tyl cA) (wR cA a σ) X A s H locs) (hl : lv_has ls 5 [(0, .ref (a 0)), (1, .long x1), (3, .int x3)]) : W p l e r_R_classify s m args below meth c H locs 0 0 Q (F0 m 28 ls []) := by
  have hx := fx.1
  have hb := fx.2.1
  unfold f_R_classify_28 at h
  refine lv_lload_n (pc := 28) hx hb d_R_classify_28 rfl (lv_at hl 1 rfl) ?_
  refine lv_ldc2 (pc := 29) (v := 776096843) hx hb fx.2.2.2.1 (fx.2.2.2.2 _ kw_1364) d_R_classify_29 ?_
  refine W.lcmp (pc := 32) hx hb d_R_classify_32 ?_
  refine lv_if_ne (pc := 33) (tgt := 41) hx hb d_R_classify_33 (by decide) (fun c9 => ?_) (fun c9 => ?_)
  · replace h := h.2 c9
    exact c_R_classify_41 hX fx HR h hw (lv_sub hl [0, 1, 2] rfl)
  · replace h := h.1 c9
    refine lv_aload_n (pc := 36) hx hb d_R_classify_36 rfl (lv_at hl 0 rfl) ?_
    refine lv_iconst (pc := 37) (v := 2) hx hb d_R_classify_37 (by decide) ?_
    refine pR_0_sort (pc := 38) fx hw kw_1111 d_R_classify_38 (fun σ_17 e9 H locs hw => ?_)
    replace h := nm_u h e9
    clear e9
    exact c_R_classify_41 hX fx HR h hw (lv_sub hl [0, 1, 2] rfl)
set_option maxHeartbeats 4000000 in
set_option maxRecDepth 100000 in
theorem e_R_classify (hX : XT X) (fx : CallFix p m c b_R_classify 5 s args GW RNR) {post : SS → Prop} (HR : RetV p l e r_R_classify s m args below meth c Q D vcl (tyl cA) (wR cA a) X A b_R_classify post) {σ : SS} {x1 : Int64} {H : Heap} {locs : List Loc} {ls : Array Slot} (h : f_R_classify post σ x1) (hw : CX D vcl (tyl cA) (wR cA a σ) X A s H locs) (hl : lv_has ls 5 [(0, .ref (a 0)), (1, .long x1)]) : W p l e r_R_classify s m args below meth c H locs 0 0 Q (F0 m 0 ls []) := by
  have hx := fx.1
  have hb := fx.2.1
  unfold f_R_classify at h
  refine lv_aload_n (pc := 0) hx hb d_R_classify_0 rfl (lv_at hl 0 rfl) ?_
  refine lv_iconst (pc := 1) (v := 0) hx hb d_R_classify_1 (by decide) ?_
  refine pR_0_sort (pc := 2) fx hw kw_1111 d_R_classify_2 (fun σ_18 e9 H locs hw => ?_)
  replace h := nm_u h e9
  clear e9
  refine lv_aload_n (pc := 5) hx hb d_R_classify_5 rfl (lv_at hl 0 rfl) ?_
  refine lv_iconst (pc := 6) (v := 0) hx hb d_R_classify_6 (by decide) ?_
  refine pR_0_base (pc := 7) fx hw kw_1112 d_R_classify_7 (fun σ_19 e9 H locs hw => ?_)
  replace h := nm_u h e9
  clear e9
  refine lv_lload_n (pc := 10) hx hb d_R_classify_10 rfl (lv_at hl 1 rfl) ?_
  refine cxSI (pc := 11) hX fx hw (c_R_sizeOf hX h) cw_R_198 rfl ⟨Nat.le_of_ble_eq_true rfl, Nat.le_of_ble_eq_true rfl⟩ hl.1 (Nat.le_of_ble_eq_true rfl) d_R_classify_11 ⟨Nat.zero_le _, Nat.zero_le _⟩ (fun r_21 σ_20 H locs hw h => ?_)
  refine lv_istore_n (pc := 14) (lv' := [(3, .int r_21), (0, .ref (a 0)), (1, .long x1)]) hx hb d_R_classify_14 rfl hl (by decide) rfl (fun ls hl => ?_)
  refine lv_lload_n (pc := 15) hx hb d_R_classify_15 rfl (lv_at hl 2 rfl) ?_
  refine lv_ldc2 (pc := 16) (v := 776752963) hx hb fx.2.2.2.1 (fx.2.2.2.2 _ kw_1363) d_R_classify_16 ?_
  refine W.lcmp (pc := 19) hx hb d_R_classify_19 ?_
  refine lv_if_ne (pc := 20) (tgt := 28) hx hb d_R_classify_20 (by decide) (fun c9 => ?_) (fun c9 => ?_)
  · replace h := h.2 c9
    exact c_R_classify_28 hX fx HR h hw (lv_sub hl [1, 2, 0] rfl)
  · replace h := h.1 c9
    refine lv_aload_n (pc := 23) hx hb d_R_classify_23 rfl (lv_at hl 1 rfl) ?_
    refine lv_iconst (pc := 24) (v := 1) hx hb d_R_classify_24 (by decide) ?_
    refine pR_0_sort (pc := 25) fx hw kw_1111 d_R_classify_25 (fun σ_22 e9 H locs hw => ?_)
    replace h := nm_u h e9
    clear e9
    exact c_R_classify_28 hX fx HR h hw (lv_sub hl [1, 2, 0] rfl)
end
theorem c_R_classify {l : Launch} {D : va_G} {cA : Nat → ClassId} {a : Nat → Nat} {X : (Nat → Prop) → State → Prop} (hX : XT X) {σ : SS} {post : SS → Prop} {x1 : Int64} (h : f_R_classify post σ x1) : mV l y_R_classify b_R_classify 5 none 3 81 D vcl (tyl cA) (wR cA a) X σ [.ref (a 0), .long x1] post := met_V (by decide) (Nat.le_of_ble_eq_true rfl) (fun p e s m args below meth c A Q fx HR H ls hw hl => e_R_classify hX fx HR h hw hl)
abbrev r_R_fixed : Room := { frames := 1, cells := 0, slots := 0, locals := 29 }
def f_R_fixed (post : Int32 → SS → Prop) (σ : SS) (x0 : Int64) : Prop := f_R_among (fun r_2 σ_1 => br (r_2 < 0) (f_R_among (fun r_4 σ_3 => br (r_4 < 0) (f_R_among (fun r_6 σ_5 => br (r_6 < 0) (post (-1) σ_5) (post (5 + r_6) σ_5)) σ_3 x0 5459538 5457242 5456462 0) (post (1 + r_4) σ_3)) σ_1 x0 5458768 5462595 5459523 5462610) (br (r_2 = 3) (post 63 σ_1) (post (8 + r_2) σ_1))) σ x0 5526601 5526607 5395523 4411477
section
variable {p : Program} {l : Launch} {e : Env} {s : State} {m : MethodId} {args : Array Value} {below : List Frame} {meth : Method} {c : Code} {Q : State → Prop} {D : va_G} {cA : Nat → ClassId} {a : Nat → Nat} {X : (Nat → Prop) → State → Prop} {A : Nat → Prop}
set_option maxHeartbeats 4000000 in
set_option maxRecDepth 100000 in
theorem e_R_fixed (hX : XT X) (fx : CallFix p m c b_R_fixed 5 s args GW RNR) {post : Int32 → SS → Prop} (HR : RetI p l e r_R_fixed s m args below meth c Q D vcl (tyl cA) (wR cA a) X A b_R_fixed .int post) {σ : SS} {x0 : Int64} {H : Heap} {locs : List Loc} {ls : Array Slot} (h : f_R_fixed post σ x0) (hw : CX D vcl (tyl cA) (wR cA a σ) X A s H locs) (hl : lv_has ls 5 [(0, .long x0)]) : W p l e r_R_fixed s m args below meth c H locs 0 0 Q (F0 m 0 ls []) := by
  have hx := fx.1
  have hb := fx.2.1
  unfold f_R_fixed at h
  refine lv_lload_n (pc := 0) hx hb d_R_fixed_0 rfl (lv_at hl 0 rfl) ?_
  refine lv_ldc2 (pc := 1) (v := 5526601) hx hb fx.2.2.2.1 (fx.2.2.2.2 _ kw_1451) d_R_fixed_1 ?_
  refine lv_ldc2 (pc := 4) (v := 5526607) hx hb fx.2.2.2.1 (fx.2.2.2.2 _ kw_1452) d_R_fixed_4 ?_
  refine lv_ldc2 (pc := 7) (v := 5395523) hx hb fx.2.2.2.1 (fx.2.2.2.2 _ kw_1453) d_R_fixed_7 ?_
  refine lv_ldc2 (pc := 10) (v := 4411477) hx hb fx.2.2.2.1 (fx.2.2.2.2 _ kw_1454) d_R_fixed_10 ?_
  refine cxSI (pc := 13) hX fx hw (c_R_among hX h) cw_R_210 rfl ⟨Nat.le_of_ble_eq_true rfl, Nat.le_of_ble_eq_true rfl⟩ hl.1 (Nat.le_of_ble_eq_true rfl) d_R_fixed_13 ⟨Nat.zero_le _, Nat.zero_le _⟩ (fun r_2 σ_1 H locs hw h => ?_)
  refine lv_istore_n (pc := 16) (lv' := [(2, .int r_2), (0, .long x0)]) hx hb d_R_fixed_16 rfl hl (by decide) rfl (fun ls hl => ?_)
  refine lv_iload_n (pc := 17) hx hb d_R_fixed_17 rfl (lv_at hl 0 rfl) ?_
  refine lv_if_lt (pc := 18) (tgt := 36) hx hb d_R_fixed_18 (by decide) (fun c9 => ?_) (fun c9 => ?_)
  · replace h := h.1 c9
    refine lv_lload_n (pc := 36) hx hb d_R_fixed_36 rfl (lv_at hl 1 rfl) ?_
    refine lv_ldc2 (pc := 37) (v := 5458768) hx hb fx.2.2.2.1 (fx.2.2.2.2 _ kw_1455) d_R_fixed_37 ?_
    refine lv_ldc2 (pc := 40) (v := 5462595) hx hb fx.2.2.2.1 (fx.2.2.2.2 _ kw_1456) d_R_fixed_40 ?_
    refine lv_ldc2 (pc := 43) (v := 5459523) hx hb fx.2.2.2.1 (fx.2.2.2.2 _ kw_1457) d_R_fixed_43 ?_
    refine lv_ldc2 (pc := 46) (v := 5462610) hx hb fx.2.2.2.1 (fx.2.2.2.2 _ kw_1458) d_R_fixed_46 ?_
    refine cxSI (pc := 49) hX fx hw (c_R_among hX h) cw_R_210 rfl ⟨Nat.le_of_ble_eq_true rfl, Nat.le_of_ble_eq_true rfl⟩ hl.1 (Nat.le_of_ble_eq_true rfl) d_R_fixed_49 ⟨Nat.zero_le _, Nat.zero_le _⟩ (fun r_4 σ_3 H locs hw h => ?_)
    refine lv_istore_n (pc := 52) (lv' := [(3, .int r_4), (2, .int r_2), (0, .long x0)]) hx hb d_R_fixed_52 rfl hl (by decide) rfl (fun ls hl => ?_)
    refine lv_iload_n (pc := 53) hx hb d_R_fixed_53 rfl (lv_at hl 0 rfl) ?_
    refine lv_if_lt (pc := 54) (tgt := 61) hx hb d_R_fixed_54 (by decide) (fun c9 => ?_) (fun c9 => ?_)
    · replace h := h.1 c9
      refine lv_lload_n (pc := 61) hx hb d_R_fixed_61 rfl (lv_at hl 2 rfl) ?_
      refine lv_ldc2 (pc := 62) (v := 5459538) hx hb fx.2.2.2.1 (fx.2.2.2.2 _ kw_1459) d_R_fixed_62 ?_
      refine lv_ldc2 (pc := 65) (v := 5457242) hx hb fx.2.2.2.1 (fx.2.2.2.2 _ kw_1460) d_R_fixed_65 ?_
      refine lv_ldc2 (pc := 68) (v := 5456462) hx hb fx.2.2.2.1 (fx.2.2.2.2 _ kw_1461) d_R_fixed_68 ?_
      refine lv_lconst (pc := 71) (v := 0) hx hb d_R_fixed_71 (by decide) ?_
      refine cxSI (pc := 72) hX fx hw (c_R_among hX h) cw_R_210 rfl ⟨Nat.le_of_ble_eq_true rfl, Nat.le_of_ble_eq_true rfl⟩ hl.1 (Nat.le_of_ble_eq_true rfl) d_R_fixed_72 ⟨Nat.zero_le _, Nat.zero_le _⟩ (fun r_6 σ_5 H locs hw h => ?_)
      refine lv_istore (pc := 75) (lv' := [(4, .int r_6), (3, .int r_4), (2, .int r_2), (0, .long x0)]) hx hb d_R_fixed_75 hl (by decide) rfl (fun ls hl => ?_)
      refine lv_iload (pc := 77) hx hb d_R_fixed_77 (lv_at hl 0 rfl) ?_
      refine lv_if_lt (pc := 79) (tgt := 89) hx hb d_R_fixed_79 (by decide) (fun c9 => ?_) (fun c9 => ?_)
      · replace h := h.1 c9
        refine lv_iconst (pc := 89) (v := (-1)) hx hb d_R_fixed_89 (by decide) ?_
        exact HR rfl d_R_fixed_90 h hw
      · replace h := h.2 c9
        refine lv_iconst (pc := 82) (v := 5) hx hb d_R_fixed_82 (by decide) ?_
        refine lv_iload (pc := 83) hx hb d_R_fixed_83 (lv_at hl 0 rfl) ?_
        refine lv_iadd (pc := 85) hx hb d_R_fixed_85 ?_
        refine lv_goto (pc := 86) (tgt := 90) hx hb d_R_fixed_86 (by decide) ?_
        exact HR rfl d_R_fixed_90 h hw
    · replace h := h.2 c9
      refine lv_iconst (pc := 57) (v := 1) hx hb d_R_fixed_57 (by decide) ?_
      refine lv_iload_n (pc := 58) hx hb d_R_fixed_58 rfl (lv_at hl 0 rfl) ?_
      refine lv_iadd (pc := 59) hx hb d_R_fixed_59 ?_
      exact HR rfl d_R_fixed_60 h hw
  · replace h := h.2 c9
    refine lv_iload_n (pc := 21) hx hb d_R_fixed_21 rfl (lv_at hl 0 rfl) ?_
    refine lv_iconst (pc := 22) (v := 3) hx hb d_R_fixed_22 (by decide) ?_
    refine lv_icmp_ne (pc := 23) (tgt := 31) hx hb d_R_fixed_23 (by decide) (fun c9 => ?_) (fun c9 => ?_)
    · replace h := h.2 c9
      refine lv_bipush (pc := 31) (v := 8) hx hb d_R_fixed_31 (by decide) ?_
      refine lv_iload_n (pc := 33) hx hb d_R_fixed_33 rfl (lv_at hl 0 rfl) ?_
      refine lv_iadd (pc := 34) hx hb d_R_fixed_34 ?_
      exact HR rfl d_R_fixed_35 h hw
    · replace h := h.1 c9
      refine lv_bipush (pc := 26) (v := 63) hx hb d_R_fixed_26 (by decide) ?_
      refine lv_goto (pc := 28) (tgt := 35) hx hb d_R_fixed_28 (by decide) ?_
      exact HR rfl d_R_fixed_35 h hw
end
theorem c_R_fixed {l : Launch} {D : va_G} {cA : Nat → ClassId} {a : Nat → Nat} {X : (Nat → Prop) → State → Prop} (hX : XT X) {σ : SS} {post : Int32 → SS → Prop} {x0 : Int64} (h : f_R_fixed post σ x0) : mI l y_R_fixed b_R_fixed 5 (some .int) 1 29 D vcl (tyl cA) (wR cA a) X σ [.long x0] post := met_I (by decide) (Nat.le_of_ble_eq_true rfl) (fun p e s m args below meth c A Q fx HR H ls hw hl => e_R_fixed hX fx HR h hw hl)
