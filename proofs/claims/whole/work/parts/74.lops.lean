/-! the law: its calls, by program -/
section LawOps
variable {p : Program} {l : Launch} {e : Env} {s : State} {m : MethodId} {below : List Frame} {meth : Method} {c : Code} {Q : State → Prop} {D : va_G} {cA : Nat → ClassId} {a r9 : Nat → Nat} {ad : Nat → Nat → Nat} {o b L : Nat} {xs : Nat → Int32} {Rel0 Rel : SS → SS → Prop} {σ τ : SS} {g : Nat → Int64} {x4 : Int32} {H : Heap} {locs : List Loc} {ls : Array Slot} {cells slots : Nat}
set_option maxHeartbeats 4000000 in
set_option maxRecDepth 100000 in
theorem lop_0 (hfl : l.flags = flags0) (fx : CallFix p m c code 7 s #[Value.ref b] GW "NovaDeskLaw") (hX : va_X b L xs s s.heap) (hbl : b < s.heap.size) (PT : PT_put Rel0 Rel) (hin : vp_in (x4 + 1) L ∧ vp_in (x4 + 2) L ∧ vp_in (x4 + 3) L ∧ vp_in (x4 + 4) L ∧ vp_in (x4 + 5) L) (hc : cells + 2 ≤ 601024 ∧ slots + 12 ≤ 7293034) (kk : LK p l e s m b below meth c Q D cA a r9 ad o Rel x4 (cells + 2) (slots + 12)) (hR : Rel0 σ τ) (hw : CX D vcl (tyl cA) (wR cA r9 τ ++ ([oc cA o g] ++ wC cA a σ)) (XL ad) (LA s) s H locs) (hl : lv_has ls 7 (LLV a r9 o b x4)) : W p l e room_1 s m #[Value.ref b] below meth c H locs cells slots Q (F0 m 128 ls []) := by
  have hx := fx.1
  have hb := fx.2.1
  have hl : lv_has ls 7 [(4, .int x4), (0, .ref b), (1, .ref (a 0)), (2, .ref (r9 0)), (3, .ref o)] := hl
  refine lv_aload_n (pc := 128) hx hb d_law_128 rfl (lv_at hl 2 rfl) ?_
  refine lv_aload_n (pc := 129) hx hb d_law_129 rfl (lv_at hl 1 rfl) ?_
  refine lv_iload (pc := 130) hx hb d_law_130 (lv_at hl 0 rfl) ?_
  refine lv_iconst (pc := 132) (v := 1) hx hb d_law_132 (by decide) ?_
  refine lv_iadd (pc := 133) hx hb d_law_133 ?_
  refine va_sld (pc := 134) hx hb hX hbl (Nat.not_le.mpr hbl) hw.2.2.2.1 hin.1 d_law_134 ?_
  refine lv_aload_n (pc := 135) hx hb d_law_135 rfl (lv_at hl 1 rfl) ?_
  refine lv_iload (pc := 136) hx hb d_law_136 (lv_at hl 0 rfl) ?_
  refine lv_iconst (pc := 138) (v := 2) hx hb d_law_138 (by decide) ?_
  refine lv_iadd (pc := 139) hx hb d_law_139 ?_
  refine va_sld (pc := 140) hx hb hX hbl (Nat.not_le.mpr hbl) hw.2.2.2.1 hin.2.1 d_law_140 ?_
  refine lv_aload_n (pc := 141) hx hb d_law_141 rfl (lv_at hl 4 rfl) ?_
  refine rsIu (pc := 142) (u := wR cA r9 τ) (w0 := [oc cA o g] ++ wC cA a σ) hw (rnW (n := 4) (pc := 142) (As := [.ref (a 0), .int (xs (x4 + 1).toNatClampNeg), .int (xs (x4 + 2).toNatClampNeg), .ref o]) fx (hl_put hfl (Φ := fun k g9 u => f_R_put (fun b9 v => lawT Rel k (g9 0) u b9 v) τ (xs (x4 + 1).toNatClampNeg) (xs (x4 + 2).toNatClampNeg)) (PT σ τ g (xs (x4 + 1).toNatClampNeg) (xs (x4 + 2).toNatClampNeg) hR) _) (pw_blind xtL) (fun U hU hW => ⟨rfl, cx_pre xtL (cxt_pre hw) hU hW⟩) kw_648 kw_649 kw_0 kw_650 (by decide +kernel) rfl ⟨Nat.le_of_ble_eq_true rfl, Nat.le_of_ble_eq_true rfl⟩ hl.1 (Nat.le_of_ble_eq_true rfl) d_law_142 ⟨by show cells + 1 ≤ 601024; omega, by show slots + 6 ≤ 7293034; omega⟩) (fun _ _ h => h) (fun k q H locs hw h => ?_)
  refine W.eq (g2 := F0 m 145 ls [.int k]) rfl ?_
  refine lv_istore (pc := 145) (lv' := [(5, .int k), (4, .int x4), (0, .ref b), (1, .ref (a 0)), (2, .ref (r9 0)), (3, .ref o)]) hx hb d_law_145 hl (by decide) rfl (fun ls hl => ?_)
  refine lv_aload_n (pc := 147) hx hb d_law_147 rfl (lv_at hl 4 rfl) ?_
  refine lv_aload_n (pc := 148) hx hb d_law_148 rfl (lv_at hl 2 rfl) ?_
  refine lv_iload (pc := 149) hx hb d_law_149 (lv_at hl 1 rfl) ?_
  refine lv_iconst (pc := 151) (v := 1) hx hb d_law_151 (by decide) ?_
  refine lv_iadd (pc := 152) hx hb d_law_152 ?_
  refine va_sld (pc := 153) hx hb hX hbl (Nat.not_le.mpr hbl) hw.2.2.2.1 hin.1 d_law_153 ?_
  refine lv_aload_n (pc := 154) hx hb d_law_154 rfl (lv_at hl 2 rfl) ?_
  refine lv_iload (pc := 155) hx hb d_law_155 (lv_at hl 1 rfl) ?_
  refine lv_iconst (pc := 157) (v := 2) hx hb d_law_157 (by decide) ?_
  refine lv_iadd (pc := 158) hx hb d_law_158 ?_
  refine va_sld (pc := 159) hx hb hX hbl (Nat.not_le.mpr hbl) hw.2.2.2.1 hin.2.1 d_law_159 ?_
  have hw := cx_rot hw
  refine rsIu (pc := 160) (u := [oc cA o q.1] ++ wC cA a q.2) (w0 := wR cA r9 τ) (wf := wR cA r9) hw (rnV (pc := 160) (As := [.int (xs (x4 + 1).toNatClampNeg), .int (xs (x4 + 2).toNatClampNeg)]) (rest := []) xtL fx (cxt_pre hw) (c_R_put xtL h _) cw_law_59 (rcR_0 (cxt_pre hw)) rfl ⟨Nat.le_of_ble_eq_true rfl, Nat.le_of_ble_eq_true rfl⟩ hl.1 (Nat.le_of_ble_eq_true rfl) d_law_160 ⟨by show _ ≤ 601024; omega, by show _ ≤ 7293034; omega⟩) (fun _ _ h => h) (fun b9 τ1 H locs hw h => ?_)
  refine W.eq (g2 := F0 m 163 ls [.int b9]) rfl ?_
  refine lv_istore (pc := 163) (lv' := [(6, .int b9), (5, .int k), (4, .int x4), (0, .ref b), (1, .ref (a 0)), (2, .ref (r9 0)), (3, .ref o)]) hx hb d_law_163 hl (by decide) rfl (fun ls hl => ?_)
  refine lv_aload_n (pc := 165) hx hb d_law_165 rfl (lv_at hl 5 rfl) ?_
  refine rsIu (pc := 166) (u := [oc cA o q.1] ++ wC cA a q.2) (w0 := wR cA r9 τ1) (wf := wR cA r9) hw (rnV (pc := 166) (As := []) (rest := []) xtL fx (cxt_pre hw) (c_R_thrown xtL h _) cw_law_60 (rcR_0 (cxt_pre hw)) rfl ⟨Nat.le_of_ble_eq_true rfl, Nat.le_of_ble_eq_true rfl⟩ hl.1 (Nat.le_of_ble_eq_true rfl) d_law_166 ⟨by show _ ≤ 601024; omega, by show _ ≤ 7293034; omega⟩) (fun _ _ h => h) (fun t9 τ2 H locs hw h => ?_)
  refine W.eq (g2 := F0 m 169 ls [.int t9]) rfl ?_
  refine lv_iload (pc := 169) hx hb d_law_169 (lv_at hl 1 rfl) ?_
  refine lv_icmp_eq (pc := 171) (tgt := 176) hx hb d_law_171 (by decide) (fun c9 => ?_) (fun c9 => absurd h.1 c9)
  refine lv_iload (pc := 176) hx hb d_law_176 (lv_at hl 1 rfl) ?_
  have hw := cx_rot hw
  refine lv_if_ne (pc := 178) (tgt := 193) hx hb d_law_178 (by decide) (fun c9 => ?_) (fun c9 => ?_)
  · refine lv_goto (pc := 193) (tgt := 945) hx hb d_law_193 (by decide) ?_
    exact W.widen (k := cells + 2) (n := slots + 12) (by omega) (by omega) (kk h.2.2 hw (lv_sub hl [2, 3, 4, 5, 6] rfl))
  · refine lv_aload_n (pc := 181) hx hb d_law_181 rfl (lv_at hl 6 rfl) ?_
    refine lv_iconst (pc := 182) (v := 0) hx hb d_law_182 (by decide) ?_
    refine va_lald (pc := 183) fx.1 fx.2.1 hw.1 hw.2.1 19 1 rfl rfl (by unfold vp_in; decide) d_law_183 ?_
    refine lv_iload (pc := 184) hx hb d_law_184 (lv_at hl 0 rfl) ?_
    refine lv_i2l (pc := 186) hx hb d_law_186 rfl ?_
    refine W.lcmp (pc := 187) hx hb d_law_187 ?_
    refine lv_if_eq (pc := 188) (tgt := 193) hx hb d_law_188 (by decide) (fun c8 => ?_) (fun c8 => absurd ((lg_cmp_eq _ _).mpr (h.2.1 c9)) c8)
    refine lv_goto (pc := 193) (tgt := 945) hx hb d_law_193 (by decide) ?_
    exact W.widen (k := cells + 2) (n := slots + 12) (by omega) (by omega) (kk h.2.2 hw (lv_sub hl [2, 3, 4, 5, 6] rfl))
set_option maxHeartbeats 4000000 in
set_option maxRecDepth 100000 in
theorem lop_1 (hfl : l.flags = flags0) (fx : CallFix p m c code 7 s #[Value.ref b] GW "NovaDeskLaw") (hX : va_X b L xs s s.heap) (hbl : b < s.heap.size) (PT : PT_word Rel0 Rel) (hin : vp_in (x4 + 1) L ∧ vp_in (x4 + 2) L ∧ vp_in (x4 + 3) L ∧ vp_in (x4 + 4) L ∧ vp_in (x4 + 5) L) (hc : cells + 2 ≤ 601024 ∧ slots + 12 ≤ 7293034) (kk : LK p l e s m b below meth c Q D cA a r9 ad o Rel x4 (cells + 2) (slots + 12)) (hR : Rel0 σ τ) (hw : CX D vcl (tyl cA) (wR cA r9 τ ++ ([oc cA o g] ++ wC cA a σ)) (XL ad) (LA s) s H locs) (hl : lv_has ls 7 (LLV a r9 o b x4)) : W p l e room_1 s m #[Value.ref b] below meth c H locs cells slots Q (F0 m 196 ls []) := by
  have hx := fx.1
  have hb := fx.2.1
  have hl : lv_has ls 7 [(4, .int x4), (0, .ref b), (1, .ref (a 0)), (2, .ref (r9 0)), (3, .ref o)] := hl
  refine lv_aload_n (pc := 196) hx hb d_law_196 rfl (lv_at hl 2 rfl) ?_
  refine lv_aload_n (pc := 197) hx hb d_law_197 rfl (lv_at hl 1 rfl) ?_
  refine lv_iload (pc := 198) hx hb d_law_198 (lv_at hl 0 rfl) ?_
  refine lv_iconst (pc := 200) (v := 1) hx hb d_law_200 (by decide) ?_
  refine lv_iadd (pc := 201) hx hb d_law_201 ?_
  refine va_sld (pc := 202) hx hb hX hbl (Nat.not_le.mpr hbl) hw.2.2.2.1 hin.1 d_law_202 ?_
  refine lv_aload_n (pc := 203) hx hb d_law_203 rfl (lv_at hl 4 rfl) ?_
  refine rsIu (pc := 204) (u := wR cA r9 τ) (w0 := [oc cA o g] ++ wC cA a σ) hw (rnW (n := 3) (pc := 204) (As := [.ref (a 0), .int (xs (x4 + 1).toNatClampNeg), .ref o]) fx (hl_word hfl (Φ := fun k g9 u => f_R_word (fun b9 v => lawT Rel k (g9 0) u b9 v) τ (xs (x4 + 1).toNatClampNeg)) (PT σ τ g (xs (x4 + 1).toNatClampNeg) hR) _) (pw_blind xtL) (fun U hU hW => ⟨rfl, cx_pre xtL (cxt_pre hw) hU hW⟩) kw_728 kw_729 kw_0 kw_730 (by decide +kernel) rfl ⟨Nat.le_of_ble_eq_true rfl, Nat.le_of_ble_eq_true rfl⟩ hl.1 (Nat.le_of_ble_eq_true rfl) d_law_204 ⟨by show cells + 1 ≤ 601024; omega, by show slots + 6 ≤ 7293034; omega⟩) (fun _ _ h => h) (fun k q H locs hw h => ?_)
  refine W.eq (g2 := F0 m 207 ls [.int k]) rfl ?_
  refine lv_istore (pc := 207) (lv' := [(5, .int k), (4, .int x4), (0, .ref b), (1, .ref (a 0)), (2, .ref (r9 0)), (3, .ref o)]) hx hb d_law_207 hl (by decide) rfl (fun ls hl => ?_)
  refine lv_aload_n (pc := 209) hx hb d_law_209 rfl (lv_at hl 4 rfl) ?_
  refine lv_aload_n (pc := 210) hx hb d_law_210 rfl (lv_at hl 2 rfl) ?_
  refine lv_iload (pc := 211) hx hb d_law_211 (lv_at hl 1 rfl) ?_
  refine lv_iconst (pc := 213) (v := 1) hx hb d_law_213 (by decide) ?_
  refine lv_iadd (pc := 214) hx hb d_law_214 ?_
  refine va_sld (pc := 215) hx hb hX hbl (Nat.not_le.mpr hbl) hw.2.2.2.1 hin.1 d_law_215 ?_
  have hw := cx_rot hw
  refine rsIu (pc := 216) (u := [oc cA o q.1] ++ wC cA a q.2) (w0 := wR cA r9 τ) (wf := wR cA r9) hw (rnV (pc := 216) (As := [.int (xs (x4 + 1).toNatClampNeg)]) (rest := []) xtL fx (cxt_pre hw) (c_R_word xtL h _) cw_law_67 (rcR_0 (cxt_pre hw)) rfl ⟨Nat.le_of_ble_eq_true rfl, Nat.le_of_ble_eq_true rfl⟩ hl.1 (Nat.le_of_ble_eq_true rfl) d_law_216 ⟨by show _ ≤ 601024; omega, by show _ ≤ 7293034; omega⟩) (fun _ _ h => h) (fun b9 τ1 H locs hw h => ?_)
  refine W.eq (g2 := F0 m 219 ls [.int b9]) rfl ?_
  refine lv_istore (pc := 219) (lv' := [(6, .int b9), (5, .int k), (4, .int x4), (0, .ref b), (1, .ref (a 0)), (2, .ref (r9 0)), (3, .ref o)]) hx hb d_law_219 hl (by decide) rfl (fun ls hl => ?_)
  refine lv_aload_n (pc := 221) hx hb d_law_221 rfl (lv_at hl 5 rfl) ?_
  refine rsIu (pc := 222) (u := [oc cA o q.1] ++ wC cA a q.2) (w0 := wR cA r9 τ1) (wf := wR cA r9) hw (rnV (pc := 222) (As := []) (rest := []) xtL fx (cxt_pre hw) (c_R_thrown xtL h _) cw_law_60 (rcR_0 (cxt_pre hw)) rfl ⟨Nat.le_of_ble_eq_true rfl, Nat.le_of_ble_eq_true rfl⟩ hl.1 (Nat.le_of_ble_eq_true rfl) d_law_222 ⟨by show _ ≤ 601024; omega, by show _ ≤ 7293034; omega⟩) (fun _ _ h => h) (fun t9 τ2 H locs hw h => ?_)
  refine W.eq (g2 := F0 m 225 ls [.int t9]) rfl ?_
  refine lv_iload (pc := 225) hx hb d_law_225 (lv_at hl 1 rfl) ?_
  refine lv_icmp_eq (pc := 227) (tgt := 232) hx hb d_law_227 (by decide) (fun c9 => ?_) (fun c9 => absurd h.1 c9)
  refine lv_iload (pc := 232) hx hb d_law_232 (lv_at hl 1 rfl) ?_
  have hw := cx_rot hw
  refine lv_if_ne (pc := 234) (tgt := 249) hx hb d_law_234 (by decide) (fun c9 => ?_) (fun c9 => ?_)
  · refine lv_goto (pc := 249) (tgt := 945) hx hb d_law_249 (by decide) ?_
    exact W.widen (k := cells + 2) (n := slots + 12) (by omega) (by omega) (kk h.2.2 hw (lv_sub hl [2, 3, 4, 5, 6] rfl))
  · refine lv_aload_n (pc := 237) hx hb d_law_237 rfl (lv_at hl 6 rfl) ?_
    refine lv_iconst (pc := 238) (v := 0) hx hb d_law_238 (by decide) ?_
    refine va_lald (pc := 239) fx.1 fx.2.1 hw.1 hw.2.1 19 1 rfl rfl (by unfold vp_in; decide) d_law_239 ?_
    refine lv_iload (pc := 240) hx hb d_law_240 (lv_at hl 0 rfl) ?_
    refine lv_i2l (pc := 242) hx hb d_law_242 rfl ?_
    refine W.lcmp (pc := 243) hx hb d_law_243 ?_
    refine lv_if_eq (pc := 244) (tgt := 249) hx hb d_law_244 (by decide) (fun c8 => ?_) (fun c8 => absurd ((lg_cmp_eq _ _).mpr (h.2.1 c9)) c8)
    refine lv_goto (pc := 249) (tgt := 945) hx hb d_law_249 (by decide) ?_
    exact W.widen (k := cells + 2) (n := slots + 12) (by omega) (by omega) (kk h.2.2 hw (lv_sub hl [2, 3, 4, 5, 6] rfl))
set_option maxHeartbeats 4000000 in
set_option maxRecDepth 100000 in
theorem lop_2 (hfl : l.flags = flags0) (fx : CallFix p m c code 7 s #[Value.ref b] GW "NovaDeskLaw") (hX : va_X b L xs s s.heap) (hbl : b < s.heap.size) (PT : PT_set Rel0 Rel) (hin : vp_in (x4 + 1) L ∧ vp_in (x4 + 2) L ∧ vp_in (x4 + 3) L ∧ vp_in (x4 + 4) L ∧ vp_in (x4 + 5) L) (hc : cells + 2 ≤ 601024 ∧ slots + 12 ≤ 7293034) (kk : LK p l e s m b below meth c Q D cA a r9 ad o Rel x4 (cells + 2) (slots + 12)) (hR : Rel0 σ τ) (hw : CX D vcl (tyl cA) (wR cA r9 τ ++ ([oc cA o g] ++ wC cA a σ)) (XL ad) (LA s) s H locs) (hl : lv_has ls 7 (LLV a r9 o b x4)) : W p l e room_1 s m #[Value.ref b] below meth c H locs cells slots Q (F0 m 252 ls []) := by
  have hx := fx.1
  have hb := fx.2.1
  have hl : lv_has ls 7 [(4, .int x4), (0, .ref b), (1, .ref (a 0)), (2, .ref (r9 0)), (3, .ref o)] := hl
  refine lv_aload_n (pc := 252) hx hb d_law_252 rfl (lv_at hl 2 rfl) ?_
  refine lv_aload_n (pc := 253) hx hb d_law_253 rfl (lv_at hl 1 rfl) ?_
  refine lv_iload (pc := 254) hx hb d_law_254 (lv_at hl 0 rfl) ?_
  refine lv_iconst (pc := 256) (v := 1) hx hb d_law_256 (by decide) ?_
  refine lv_iadd (pc := 257) hx hb d_law_257 ?_
  refine va_sld (pc := 258) hx hb hX hbl (Nat.not_le.mpr hbl) hw.2.2.2.1 hin.1 d_law_258 ?_
  refine lv_aload_n (pc := 259) hx hb d_law_259 rfl (lv_at hl 1 rfl) ?_
  refine lv_iload (pc := 260) hx hb d_law_260 (lv_at hl 0 rfl) ?_
  refine lv_iconst (pc := 262) (v := 2) hx hb d_law_262 (by decide) ?_
  refine lv_iadd (pc := 263) hx hb d_law_263 ?_
  refine va_sld (pc := 264) hx hb hX hbl (Nat.not_le.mpr hbl) hw.2.2.2.1 hin.2.1 d_law_264 ?_
  refine lv_aload_n (pc := 265) hx hb d_law_265 rfl (lv_at hl 4 rfl) ?_
  refine rsIu (pc := 266) (u := wR cA r9 τ) (w0 := [oc cA o g] ++ wC cA a σ) hw (rnW (n := 4) (pc := 266) (As := [.ref (a 0), .int (xs (x4 + 1).toNatClampNeg), .int (xs (x4 + 2).toNatClampNeg), .ref o]) fx (hl_set hfl (Φ := fun k g9 u => f_R_set (fun b9 v => lawT Rel k (g9 0) u b9 v) τ (xs (x4 + 1).toNatClampNeg) (xs (x4 + 2).toNatClampNeg)) (PT σ τ g (xs (x4 + 1).toNatClampNeg) (xs (x4 + 2).toNatClampNeg) hR) _) (pw_blind xtL) (fun U hU hW => ⟨rfl, cx_pre xtL (cxt_pre hw) hU hW⟩) kw_735 kw_736 kw_0 kw_737 (by decide +kernel) rfl ⟨Nat.le_of_ble_eq_true rfl, Nat.le_of_ble_eq_true rfl⟩ hl.1 (Nat.le_of_ble_eq_true rfl) d_law_266 ⟨by show cells + 1 ≤ 601024; omega, by show slots + 6 ≤ 7293034; omega⟩) (fun _ _ h => h) (fun k q H locs hw h => ?_)
  refine W.eq (g2 := F0 m 269 ls [.int k]) rfl ?_
  refine lv_istore (pc := 269) (lv' := [(5, .int k), (4, .int x4), (0, .ref b), (1, .ref (a 0)), (2, .ref (r9 0)), (3, .ref o)]) hx hb d_law_269 hl (by decide) rfl (fun ls hl => ?_)
  refine lv_aload_n (pc := 271) hx hb d_law_271 rfl (lv_at hl 4 rfl) ?_
  refine lv_aload_n (pc := 272) hx hb d_law_272 rfl (lv_at hl 2 rfl) ?_
  refine lv_iload (pc := 273) hx hb d_law_273 (lv_at hl 1 rfl) ?_
  refine lv_iconst (pc := 275) (v := 1) hx hb d_law_275 (by decide) ?_
  refine lv_iadd (pc := 276) hx hb d_law_276 ?_
  refine va_sld (pc := 277) hx hb hX hbl (Nat.not_le.mpr hbl) hw.2.2.2.1 hin.1 d_law_277 ?_
  refine lv_aload_n (pc := 278) hx hb d_law_278 rfl (lv_at hl 2 rfl) ?_
  refine lv_iload (pc := 279) hx hb d_law_279 (lv_at hl 1 rfl) ?_
  refine lv_iconst (pc := 281) (v := 2) hx hb d_law_281 (by decide) ?_
  refine lv_iadd (pc := 282) hx hb d_law_282 ?_
  refine va_sld (pc := 283) hx hb hX hbl (Nat.not_le.mpr hbl) hw.2.2.2.1 hin.2.1 d_law_283 ?_
  have hw := cx_rot hw
  refine rsIu (pc := 284) (u := [oc cA o q.1] ++ wC cA a q.2) (w0 := wR cA r9 τ) (wf := wR cA r9) hw (rnV (pc := 284) (As := [.int (xs (x4 + 1).toNatClampNeg), .int (xs (x4 + 2).toNatClampNeg)]) (rest := []) xtL fx (cxt_pre hw) (c_R_set xtL h _) cw_law_70 (rcR_0 (cxt_pre hw)) rfl ⟨Nat.le_of_ble_eq_true rfl, Nat.le_of_ble_eq_true rfl⟩ hl.1 (Nat.le_of_ble_eq_true rfl) d_law_284 ⟨by show _ ≤ 601024; omega, by show _ ≤ 7293034; omega⟩) (fun _ _ h => h) (fun b9 τ1 H locs hw h => ?_)
  refine W.eq (g2 := F0 m 287 ls [.int b9]) rfl ?_
  refine lv_istore (pc := 287) (lv' := [(6, .int b9), (5, .int k), (4, .int x4), (0, .ref b), (1, .ref (a 0)), (2, .ref (r9 0)), (3, .ref o)]) hx hb d_law_287 hl (by decide) rfl (fun ls hl => ?_)
  refine lv_aload_n (pc := 289) hx hb d_law_289 rfl (lv_at hl 5 rfl) ?_
  refine rsIu (pc := 290) (u := [oc cA o q.1] ++ wC cA a q.2) (w0 := wR cA r9 τ1) (wf := wR cA r9) hw (rnV (pc := 290) (As := []) (rest := []) xtL fx (cxt_pre hw) (c_R_thrown xtL h _) cw_law_60 (rcR_0 (cxt_pre hw)) rfl ⟨Nat.le_of_ble_eq_true rfl, Nat.le_of_ble_eq_true rfl⟩ hl.1 (Nat.le_of_ble_eq_true rfl) d_law_290 ⟨by show _ ≤ 601024; omega, by show _ ≤ 7293034; omega⟩) (fun _ _ h => h) (fun t9 τ2 H locs hw h => ?_)
  refine W.eq (g2 := F0 m 293 ls [.int t9]) rfl ?_
  refine lv_iload (pc := 293) hx hb d_law_293 (lv_at hl 1 rfl) ?_
  refine lv_icmp_eq (pc := 295) (tgt := 300) hx hb d_law_295 (by decide) (fun c9 => ?_) (fun c9 => absurd h.1 c9)
  refine lv_iload (pc := 300) hx hb d_law_300 (lv_at hl 1 rfl) ?_
  have hw := cx_rot hw
  refine lv_if_ne (pc := 302) (tgt := 317) hx hb d_law_302 (by decide) (fun c9 => ?_) (fun c9 => ?_)
  · refine lv_goto (pc := 317) (tgt := 945) hx hb d_law_317 (by decide) ?_
    exact W.widen (k := cells + 2) (n := slots + 12) (by omega) (by omega) (kk h.2.2 hw (lv_sub hl [2, 3, 4, 5, 6] rfl))
  · refine lv_aload_n (pc := 305) hx hb d_law_305 rfl (lv_at hl 6 rfl) ?_
    refine lv_iconst (pc := 306) (v := 0) hx hb d_law_306 (by decide) ?_
    refine va_lald (pc := 307) fx.1 fx.2.1 hw.1 hw.2.1 19 1 rfl rfl (by unfold vp_in; decide) d_law_307 ?_
    refine lv_iload (pc := 308) hx hb d_law_308 (lv_at hl 0 rfl) ?_
    refine lv_i2l (pc := 310) hx hb d_law_310 rfl ?_
    refine W.lcmp (pc := 311) hx hb d_law_311 ?_
    refine lv_if_eq (pc := 312) (tgt := 317) hx hb d_law_312 (by decide) (fun c8 => ?_) (fun c8 => absurd ((lg_cmp_eq _ _).mpr (h.2.1 c9)) c8)
    refine lv_goto (pc := 317) (tgt := 945) hx hb d_law_317 (by decide) ?_
    exact W.widen (k := cells + 2) (n := slots + 12) (by omega) (by omega) (kk h.2.2 hw (lv_sub hl [2, 3, 4, 5, 6] rfl))
set_option maxHeartbeats 4000000 in
set_option maxRecDepth 100000 in
theorem lop_3 (hfl : l.flags = flags0) (fx : CallFix p m c code 7 s #[Value.ref b] GW "NovaDeskLaw") (hX : va_X b L xs s s.heap) (hbl : b < s.heap.size) (PT : PT_register Rel0 Rel) (hin : vp_in (x4 + 1) L ∧ vp_in (x4 + 2) L ∧ vp_in (x4 + 3) L ∧ vp_in (x4 + 4) L ∧ vp_in (x4 + 5) L) (hc : cells + 2 ≤ 601024 ∧ slots + 12 ≤ 7293034) (kk : LK p l e s m b below meth c Q D cA a r9 ad o Rel x4 (cells + 2) (slots + 12)) (hR : Rel0 σ τ) (hw : CX D vcl (tyl cA) (wR cA r9 τ ++ ([oc cA o g] ++ wC cA a σ)) (XL ad) (LA s) s H locs) (hl : lv_has ls 7 (LLV a r9 o b x4)) : W p l e room_1 s m #[Value.ref b] below meth c H locs cells slots Q (F0 m 320 ls []) := by
  have hx := fx.1
  have hb := fx.2.1
  have hl : lv_has ls 7 [(4, .int x4), (0, .ref b), (1, .ref (a 0)), (2, .ref (r9 0)), (3, .ref o)] := hl
  refine lv_aload_n (pc := 320) hx hb d_law_320 rfl (lv_at hl 2 rfl) ?_
  refine lv_aload_n (pc := 321) hx hb d_law_321 rfl (lv_at hl 1 rfl) ?_
  refine lv_iload (pc := 322) hx hb d_law_322 (lv_at hl 0 rfl) ?_
  refine lv_iconst (pc := 324) (v := 1) hx hb d_law_324 (by decide) ?_
  refine lv_iadd (pc := 325) hx hb d_law_325 ?_
  refine va_sld (pc := 326) hx hb hX hbl (Nat.not_le.mpr hbl) hw.2.2.2.1 hin.1 d_law_326 ?_
  refine lv_aload_n (pc := 327) hx hb d_law_327 rfl (lv_at hl 4 rfl) ?_
  refine rsIu (pc := 328) (u := wR cA r9 τ) (w0 := [oc cA o g] ++ wC cA a σ) hw (rnW (n := 3) (pc := 328) (As := [.ref (a 0), .int (xs (x4 + 1).toNatClampNeg), .ref o]) fx (hl_register hfl (Φ := fun k g9 u => f_R_register (fun b9 v => lawT Rel k (g9 0) u b9 v) τ (xs (x4 + 1).toNatClampNeg)) (PT σ τ g (xs (x4 + 1).toNatClampNeg) hR) _) (pw_blind xtL) (fun U hU hW => ⟨rfl, cx_pre xtL (cxt_pre hw) hU hW⟩) kw_753 kw_754 kw_0 kw_755 (by decide +kernel) rfl ⟨Nat.le_of_ble_eq_true rfl, Nat.le_of_ble_eq_true rfl⟩ hl.1 (Nat.le_of_ble_eq_true rfl) d_law_328 ⟨by show cells + 1 ≤ 601024; omega, by show slots + 6 ≤ 7293034; omega⟩) (fun _ _ h => h) (fun k q H locs hw h => ?_)
  refine W.eq (g2 := F0 m 331 ls [.int k]) rfl ?_
  refine lv_istore (pc := 331) (lv' := [(5, .int k), (4, .int x4), (0, .ref b), (1, .ref (a 0)), (2, .ref (r9 0)), (3, .ref o)]) hx hb d_law_331 hl (by decide) rfl (fun ls hl => ?_)
  refine lv_aload_n (pc := 333) hx hb d_law_333 rfl (lv_at hl 4 rfl) ?_
  refine lv_aload_n (pc := 334) hx hb d_law_334 rfl (lv_at hl 2 rfl) ?_
  refine lv_iload (pc := 335) hx hb d_law_335 (lv_at hl 1 rfl) ?_
  refine lv_iconst (pc := 337) (v := 1) hx hb d_law_337 (by decide) ?_
  refine lv_iadd (pc := 338) hx hb d_law_338 ?_
  refine va_sld (pc := 339) hx hb hX hbl (Nat.not_le.mpr hbl) hw.2.2.2.1 hin.1 d_law_339 ?_
  have hw := cx_rot hw
  refine rsIu (pc := 340) (u := [oc cA o q.1] ++ wC cA a q.2) (w0 := wR cA r9 τ) (wf := wR cA r9) hw (rnV (pc := 340) (As := [.int (xs (x4 + 1).toNatClampNeg)]) (rest := []) xtL fx (cxt_pre hw) (c_R_register xtL h _) cw_law_73 (rcR_0 (cxt_pre hw)) rfl ⟨Nat.le_of_ble_eq_true rfl, Nat.le_of_ble_eq_true rfl⟩ hl.1 (Nat.le_of_ble_eq_true rfl) d_law_340 ⟨by show _ ≤ 601024; omega, by show _ ≤ 7293034; omega⟩) (fun _ _ h => h) (fun b9 τ1 H locs hw h => ?_)
  refine W.eq (g2 := F0 m 343 ls [.int b9]) rfl ?_
  refine lv_istore (pc := 343) (lv' := [(6, .int b9), (5, .int k), (4, .int x4), (0, .ref b), (1, .ref (a 0)), (2, .ref (r9 0)), (3, .ref o)]) hx hb d_law_343 hl (by decide) rfl (fun ls hl => ?_)
  refine lv_aload_n (pc := 345) hx hb d_law_345 rfl (lv_at hl 5 rfl) ?_
  refine rsIu (pc := 346) (u := [oc cA o q.1] ++ wC cA a q.2) (w0 := wR cA r9 τ1) (wf := wR cA r9) hw (rnV (pc := 346) (As := []) (rest := []) xtL fx (cxt_pre hw) (c_R_thrown xtL h _) cw_law_60 (rcR_0 (cxt_pre hw)) rfl ⟨Nat.le_of_ble_eq_true rfl, Nat.le_of_ble_eq_true rfl⟩ hl.1 (Nat.le_of_ble_eq_true rfl) d_law_346 ⟨by show _ ≤ 601024; omega, by show _ ≤ 7293034; omega⟩) (fun _ _ h => h) (fun t9 τ2 H locs hw h => ?_)
  refine W.eq (g2 := F0 m 349 ls [.int t9]) rfl ?_
  refine lv_iload (pc := 349) hx hb d_law_349 (lv_at hl 1 rfl) ?_
  refine lv_icmp_eq (pc := 351) (tgt := 356) hx hb d_law_351 (by decide) (fun c9 => ?_) (fun c9 => absurd h.1 c9)
  refine lv_iload (pc := 356) hx hb d_law_356 (lv_at hl 1 rfl) ?_
  have hw := cx_rot hw
  refine lv_if_ne (pc := 358) (tgt := 373) hx hb d_law_358 (by decide) (fun c9 => ?_) (fun c9 => ?_)
  · refine lv_goto (pc := 373) (tgt := 945) hx hb d_law_373 (by decide) ?_
    exact W.widen (k := cells + 2) (n := slots + 12) (by omega) (by omega) (kk h.2.2 hw (lv_sub hl [2, 3, 4, 5, 6] rfl))
  · refine lv_aload_n (pc := 361) hx hb d_law_361 rfl (lv_at hl 6 rfl) ?_
    refine lv_iconst (pc := 362) (v := 0) hx hb d_law_362 (by decide) ?_
    refine va_lald (pc := 363) fx.1 fx.2.1 hw.1 hw.2.1 19 1 rfl rfl (by unfold vp_in; decide) d_law_363 ?_
    refine lv_iload (pc := 364) hx hb d_law_364 (lv_at hl 0 rfl) ?_
    refine lv_i2l (pc := 366) hx hb d_law_366 rfl ?_
    refine W.lcmp (pc := 367) hx hb d_law_367 ?_
    refine lv_if_eq (pc := 368) (tgt := 373) hx hb d_law_368 (by decide) (fun c8 => ?_) (fun c8 => absurd ((lg_cmp_eq _ _).mpr (h.2.1 c9)) c8)
    refine lv_goto (pc := 373) (tgt := 945) hx hb d_law_373 (by decide) ?_
    exact W.widen (k := cells + 2) (n := slots + 12) (by omega) (by omega) (kk h.2.2 hw (lv_sub hl [2, 3, 4, 5, 6] rfl))
set_option maxHeartbeats 4000000 in
set_option maxRecDepth 100000 in
theorem lop_4 (hfl : l.flags = flags0) (fx : CallFix p m c code 7 s #[Value.ref b] GW "NovaDeskLaw") (hX : va_X b L xs s s.heap) (hbl : b < s.heap.size) (PT : PT_device Rel0 Rel) (hin : vp_in (x4 + 1) L ∧ vp_in (x4 + 2) L ∧ vp_in (x4 + 3) L ∧ vp_in (x4 + 4) L ∧ vp_in (x4 + 5) L) (hc : cells + 2 ≤ 601024 ∧ slots + 12 ≤ 7293034) (kk : LK p l e s m b below meth c Q D cA a r9 ad o Rel x4 (cells + 2) (slots + 12)) (hR : Rel0 σ τ) (hw : CX D vcl (tyl cA) (wR cA r9 τ ++ ([oc cA o g] ++ wC cA a σ)) (XL ad) (LA s) s H locs) (hl : lv_has ls 7 (LLV a r9 o b x4)) : W p l e room_1 s m #[Value.ref b] below meth c H locs cells slots Q (F0 m 376 ls []) := by
  have hx := fx.1
  have hb := fx.2.1
  have hl : lv_has ls 7 [(4, .int x4), (0, .ref b), (1, .ref (a 0)), (2, .ref (r9 0)), (3, .ref o)] := hl
  refine lv_aload_n (pc := 376) hx hb d_law_376 rfl (lv_at hl 2 rfl) ?_
  refine lv_aload_n (pc := 377) hx hb d_law_377 rfl (lv_at hl 1 rfl) ?_
  refine lv_iload (pc := 378) hx hb d_law_378 (lv_at hl 0 rfl) ?_
  refine lv_iconst (pc := 380) (v := 1) hx hb d_law_380 (by decide) ?_
  refine lv_iadd (pc := 381) hx hb d_law_381 ?_
  refine va_sld (pc := 382) hx hb hX hbl (Nat.not_le.mpr hbl) hw.2.2.2.1 hin.1 d_law_382 ?_
  refine lv_aload_n (pc := 383) hx hb d_law_383 rfl (lv_at hl 1 rfl) ?_
  refine lv_iload (pc := 384) hx hb d_law_384 (lv_at hl 0 rfl) ?_
  refine lv_iconst (pc := 386) (v := 2) hx hb d_law_386 (by decide) ?_
  refine lv_iadd (pc := 387) hx hb d_law_387 ?_
  refine va_sld (pc := 388) hx hb hX hbl (Nat.not_le.mpr hbl) hw.2.2.2.1 hin.2.1 d_law_388 ?_
  refine lv_aload_n (pc := 389) hx hb d_law_389 rfl (lv_at hl 4 rfl) ?_
  refine rsIu (pc := 390) (u := wR cA r9 τ) (w0 := [oc cA o g] ++ wC cA a σ) hw (rnW (n := 4) (pc := 390) (As := [.ref (a 0), .int (xs (x4 + 1).toNatClampNeg), .int (xs (x4 + 2).toNatClampNeg), .ref o]) fx (hl_device hfl (Φ := fun k g9 u => f_R_device (fun b9 v => lawT Rel k (g9 0) u b9 v) τ (xs (x4 + 1).toNatClampNeg) (xs (x4 + 2).toNatClampNeg)) (PT σ τ g (xs (x4 + 1).toNatClampNeg) (xs (x4 + 2).toNatClampNeg) hR) _) (pw_blind xtL) (fun U hU hW => ⟨rfl, cx_pre xtL (cxt_pre hw) hU hW⟩) kw_760 kw_761 kw_0 kw_762 (by decide +kernel) rfl ⟨Nat.le_of_ble_eq_true rfl, Nat.le_of_ble_eq_true rfl⟩ hl.1 (Nat.le_of_ble_eq_true rfl) d_law_390 ⟨by show cells + 1 ≤ 601024; omega, by show slots + 6 ≤ 7293034; omega⟩) (fun _ _ h => h) (fun k q H locs hw h => ?_)
  refine W.eq (g2 := F0 m 393 ls [.int k]) rfl ?_
  refine lv_istore (pc := 393) (lv' := [(5, .int k), (4, .int x4), (0, .ref b), (1, .ref (a 0)), (2, .ref (r9 0)), (3, .ref o)]) hx hb d_law_393 hl (by decide) rfl (fun ls hl => ?_)
  refine lv_aload_n (pc := 395) hx hb d_law_395 rfl (lv_at hl 4 rfl) ?_
  refine lv_aload_n (pc := 396) hx hb d_law_396 rfl (lv_at hl 2 rfl) ?_
  refine lv_iload (pc := 397) hx hb d_law_397 (lv_at hl 1 rfl) ?_
  refine lv_iconst (pc := 399) (v := 1) hx hb d_law_399 (by decide) ?_
  refine lv_iadd (pc := 400) hx hb d_law_400 ?_
  refine va_sld (pc := 401) hx hb hX hbl (Nat.not_le.mpr hbl) hw.2.2.2.1 hin.1 d_law_401 ?_
  refine lv_aload_n (pc := 402) hx hb d_law_402 rfl (lv_at hl 2 rfl) ?_
  refine lv_iload (pc := 403) hx hb d_law_403 (lv_at hl 1 rfl) ?_
  refine lv_iconst (pc := 405) (v := 2) hx hb d_law_405 (by decide) ?_
  refine lv_iadd (pc := 406) hx hb d_law_406 ?_
  refine va_sld (pc := 407) hx hb hX hbl (Nat.not_le.mpr hbl) hw.2.2.2.1 hin.2.1 d_law_407 ?_
  have hw := cx_rot hw
  refine rsIu (pc := 408) (u := [oc cA o q.1] ++ wC cA a q.2) (w0 := wR cA r9 τ) (wf := wR cA r9) hw (rnV (pc := 408) (As := [.int (xs (x4 + 1).toNatClampNeg), .int (xs (x4 + 2).toNatClampNeg)]) (rest := []) xtL fx (cxt_pre hw) (c_R_device xtL h _) cw_law_76 (rcR_0 (cxt_pre hw)) rfl ⟨Nat.le_of_ble_eq_true rfl, Nat.le_of_ble_eq_true rfl⟩ hl.1 (Nat.le_of_ble_eq_true rfl) d_law_408 ⟨by show _ ≤ 601024; omega, by show _ ≤ 7293034; omega⟩) (fun _ _ h => h) (fun b9 τ1 H locs hw h => ?_)
  refine W.eq (g2 := F0 m 411 ls [.int b9]) rfl ?_
  refine lv_istore (pc := 411) (lv' := [(6, .int b9), (5, .int k), (4, .int x4), (0, .ref b), (1, .ref (a 0)), (2, .ref (r9 0)), (3, .ref o)]) hx hb d_law_411 hl (by decide) rfl (fun ls hl => ?_)
  refine lv_aload_n (pc := 413) hx hb d_law_413 rfl (lv_at hl 5 rfl) ?_
  refine rsIu (pc := 414) (u := [oc cA o q.1] ++ wC cA a q.2) (w0 := wR cA r9 τ1) (wf := wR cA r9) hw (rnV (pc := 414) (As := []) (rest := []) xtL fx (cxt_pre hw) (c_R_thrown xtL h _) cw_law_60 (rcR_0 (cxt_pre hw)) rfl ⟨Nat.le_of_ble_eq_true rfl, Nat.le_of_ble_eq_true rfl⟩ hl.1 (Nat.le_of_ble_eq_true rfl) d_law_414 ⟨by show _ ≤ 601024; omega, by show _ ≤ 7293034; omega⟩) (fun _ _ h => h) (fun t9 τ2 H locs hw h => ?_)
  refine W.eq (g2 := F0 m 417 ls [.int t9]) rfl ?_
  refine lv_iload (pc := 417) hx hb d_law_417 (lv_at hl 1 rfl) ?_
  refine lv_icmp_eq (pc := 419) (tgt := 424) hx hb d_law_419 (by decide) (fun c9 => ?_) (fun c9 => absurd h.1 c9)
  refine lv_iload (pc := 424) hx hb d_law_424 (lv_at hl 1 rfl) ?_
  have hw := cx_rot hw
  refine lv_if_ne (pc := 426) (tgt := 441) hx hb d_law_426 (by decide) (fun c9 => ?_) (fun c9 => ?_)
  · refine lv_goto (pc := 441) (tgt := 945) hx hb d_law_441 (by decide) ?_
    exact W.widen (k := cells + 2) (n := slots + 12) (by omega) (by omega) (kk h.2.2 hw (lv_sub hl [2, 3, 4, 5, 6] rfl))
  · refine lv_aload_n (pc := 429) hx hb d_law_429 rfl (lv_at hl 6 rfl) ?_
    refine lv_iconst (pc := 430) (v := 0) hx hb d_law_430 (by decide) ?_
    refine va_lald (pc := 431) fx.1 fx.2.1 hw.1 hw.2.1 19 1 rfl rfl (by unfold vp_in; decide) d_law_431 ?_
    refine lv_iload (pc := 432) hx hb d_law_432 (lv_at hl 0 rfl) ?_
    refine lv_i2l (pc := 434) hx hb d_law_434 rfl ?_
    refine W.lcmp (pc := 435) hx hb d_law_435 ?_
    refine lv_if_eq (pc := 436) (tgt := 441) hx hb d_law_436 (by decide) (fun c8 => ?_) (fun c8 => absurd ((lg_cmp_eq _ _).mpr (h.2.1 c9)) c8)
    refine lv_goto (pc := 441) (tgt := 945) hx hb d_law_441 (by decide) ?_
    exact W.widen (k := cells + 2) (n := slots + 12) (by omega) (by omega) (kk h.2.2 hw (lv_sub hl [2, 3, 4, 5, 6] rfl))
set_option maxHeartbeats 4000000 in
set_option maxRecDepth 100000 in
theorem lop_5 (hfl : l.flags = flags0) (fx : CallFix p m c code 7 s #[Value.ref b] GW "NovaDeskLaw") (hX : va_X b L xs s s.heap) (hbl : b < s.heap.size) (PT : PT_tape Rel0 Rel) (hin : vp_in (x4 + 1) L ∧ vp_in (x4 + 2) L ∧ vp_in (x4 + 3) L ∧ vp_in (x4 + 4) L ∧ vp_in (x4 + 5) L) (hc : cells + 2 ≤ 601024 ∧ slots + 12 ≤ 7293034) (kk : LK p l e s m b below meth c Q D cA a r9 ad o Rel x4 (cells + 2) (slots + 12)) (hR : Rel0 σ τ) (hw : CX D vcl (tyl cA) (wR cA r9 τ ++ ([oc cA o g] ++ wC cA a σ)) (XL ad) (LA s) s H locs) (hl : lv_has ls 7 (LLV a r9 o b x4)) : W p l e room_1 s m #[Value.ref b] below meth c H locs cells slots Q (F0 m 444 ls []) := by
  have hx := fx.1
  have hb := fx.2.1
  have hl : lv_has ls 7 [(4, .int x4), (0, .ref b), (1, .ref (a 0)), (2, .ref (r9 0)), (3, .ref o)] := hl
  refine lv_aload_n (pc := 444) hx hb d_law_444 rfl (lv_at hl 2 rfl) ?_
  refine lv_aload_n (pc := 445) hx hb d_law_445 rfl (lv_at hl 1 rfl) ?_
  refine lv_iload (pc := 446) hx hb d_law_446 (lv_at hl 0 rfl) ?_
  refine lv_iconst (pc := 448) (v := 1) hx hb d_law_448 (by decide) ?_
  refine lv_iadd (pc := 449) hx hb d_law_449 ?_
  refine va_sld (pc := 450) hx hb hX hbl (Nat.not_le.mpr hbl) hw.2.2.2.1 hin.1 d_law_450 ?_
  refine lv_aload_n (pc := 451) hx hb d_law_451 rfl (lv_at hl 4 rfl) ?_
  refine rsIu (pc := 452) (u := wR cA r9 τ) (w0 := [oc cA o g] ++ wC cA a σ) hw (rnW (n := 3) (pc := 452) (As := [.ref (a 0), .int (xs (x4 + 1).toNatClampNeg), .ref o]) fx (hl_tape hfl (Φ := fun k g9 u => f_R_tape (fun b9 v => lawT Rel k (g9 0) u b9 v) τ (xs (x4 + 1).toNatClampNeg)) (PT σ τ g (xs (x4 + 1).toNatClampNeg) hR) _) (pw_blind xtL) (fun U hU hW => ⟨rfl, cx_pre xtL (cxt_pre hw) hU hW⟩) kw_775 kw_776 kw_0 kw_777 (by decide +kernel) rfl ⟨Nat.le_of_ble_eq_true rfl, Nat.le_of_ble_eq_true rfl⟩ hl.1 (Nat.le_of_ble_eq_true rfl) d_law_452 ⟨by show cells + 2 ≤ 601024; omega, by show slots + 12 ≤ 7293034; omega⟩) (fun _ _ h => h) (fun k q H locs hw h => ?_)
  refine W.eq (g2 := F0 m 455 ls [.int k]) rfl ?_
  refine lv_istore (pc := 455) (lv' := [(5, .int k), (4, .int x4), (0, .ref b), (1, .ref (a 0)), (2, .ref (r9 0)), (3, .ref o)]) hx hb d_law_455 hl (by decide) rfl (fun ls hl => ?_)
  refine lv_aload_n (pc := 457) hx hb d_law_457 rfl (lv_at hl 4 rfl) ?_
  refine lv_aload_n (pc := 458) hx hb d_law_458 rfl (lv_at hl 2 rfl) ?_
  refine lv_iload (pc := 459) hx hb d_law_459 (lv_at hl 1 rfl) ?_
  refine lv_iconst (pc := 461) (v := 1) hx hb d_law_461 (by decide) ?_
  refine lv_iadd (pc := 462) hx hb d_law_462 ?_
  refine va_sld (pc := 463) hx hb hX hbl (Nat.not_le.mpr hbl) hw.2.2.2.1 hin.1 d_law_463 ?_
  have hw := cx_rot hw
  refine rsIu (pc := 464) (u := [oc cA o q.1] ++ wC cA a q.2) (w0 := wR cA r9 τ) (wf := wR cA r9) hw (rnV (pc := 464) (As := [.int (xs (x4 + 1).toNatClampNeg)]) (rest := []) xtL fx (cxt_pre hw) (c_R_tape xtL h _) cw_law_79 (rcR_0 (cxt_pre hw)) rfl ⟨Nat.le_of_ble_eq_true rfl, Nat.le_of_ble_eq_true rfl⟩ hl.1 (Nat.le_of_ble_eq_true rfl) d_law_464 ⟨by show _ ≤ 601024; omega, by show _ ≤ 7293034; omega⟩) (fun _ _ h => h) (fun b9 τ1 H locs hw h => ?_)
  refine W.eq (g2 := F0 m 467 ls [.int b9]) rfl ?_
  refine lv_istore (pc := 467) (lv' := [(6, .int b9), (5, .int k), (4, .int x4), (0, .ref b), (1, .ref (a 0)), (2, .ref (r9 0)), (3, .ref o)]) hx hb d_law_467 hl (by decide) rfl (fun ls hl => ?_)
  refine lv_aload_n (pc := 469) hx hb d_law_469 rfl (lv_at hl 5 rfl) ?_
  refine rsIu (pc := 470) (u := [oc cA o q.1] ++ wC cA a q.2) (w0 := wR cA r9 τ1) (wf := wR cA r9) hw (rnV (pc := 470) (As := []) (rest := []) xtL fx (cxt_pre hw) (c_R_thrown xtL h _) cw_law_60 (rcR_0 (cxt_pre hw)) rfl ⟨Nat.le_of_ble_eq_true rfl, Nat.le_of_ble_eq_true rfl⟩ hl.1 (Nat.le_of_ble_eq_true rfl) d_law_470 ⟨by show _ ≤ 601024; omega, by show _ ≤ 7293034; omega⟩) (fun _ _ h => h) (fun t9 τ2 H locs hw h => ?_)
  refine W.eq (g2 := F0 m 473 ls [.int t9]) rfl ?_
  refine lv_iload (pc := 473) hx hb d_law_473 (lv_at hl 1 rfl) ?_
  refine lv_icmp_eq (pc := 475) (tgt := 480) hx hb d_law_475 (by decide) (fun c9 => ?_) (fun c9 => absurd h.1 c9)
  refine lv_iload (pc := 480) hx hb d_law_480 (lv_at hl 1 rfl) ?_
  have hw := cx_rot hw
  refine lv_if_ne (pc := 482) (tgt := 497) hx hb d_law_482 (by decide) (fun c9 => ?_) (fun c9 => ?_)
  · refine lv_goto (pc := 497) (tgt := 945) hx hb d_law_497 (by decide) ?_
    exact W.widen (k := cells + 2) (n := slots + 12) (by omega) (by omega) (kk h.2.2 hw (lv_sub hl [2, 3, 4, 5, 6] rfl))
  · refine lv_aload_n (pc := 485) hx hb d_law_485 rfl (lv_at hl 6 rfl) ?_
    refine lv_iconst (pc := 486) (v := 0) hx hb d_law_486 (by decide) ?_
    refine va_lald (pc := 487) fx.1 fx.2.1 hw.1 hw.2.1 19 1 rfl rfl (by unfold vp_in; decide) d_law_487 ?_
    refine lv_iload (pc := 488) hx hb d_law_488 (lv_at hl 0 rfl) ?_
    refine lv_i2l (pc := 490) hx hb d_law_490 rfl ?_
    refine W.lcmp (pc := 491) hx hb d_law_491 ?_
    refine lv_if_eq (pc := 492) (tgt := 497) hx hb d_law_492 (by decide) (fun c8 => ?_) (fun c8 => absurd ((lg_cmp_eq _ _).mpr (h.2.1 c9)) c8)
    refine lv_goto (pc := 497) (tgt := 945) hx hb d_law_497 (by decide) ?_
    exact W.widen (k := cells + 2) (n := slots + 12) (by omega) (by omega) (kk h.2.2 hw (lv_sub hl [2, 3, 4, 5, 6] rfl))
set_option maxHeartbeats 4000000 in
set_option maxRecDepth 100000 in
theorem lop_6 (hfl : l.flags = flags0) (fx : CallFix p m c code 7 s #[Value.ref b] GW "NovaDeskLaw") (hX : va_X b L xs s s.heap) (hbl : b < s.heap.size) (PT : PT_run Rel0 Rel) (hin : vp_in (x4 + 1) L ∧ vp_in (x4 + 2) L ∧ vp_in (x4 + 3) L ∧ vp_in (x4 + 4) L ∧ vp_in (x4 + 5) L) (hc : cells + 2 ≤ 601024 ∧ slots + 12 ≤ 7293034) (kk : LK p l e s m b below meth c Q D cA a r9 ad o Rel x4 (cells + 2) (slots + 12)) (hR : Rel0 σ τ) (hw : CX D vcl (tyl cA) (wR cA r9 τ ++ ([oc cA o g] ++ wC cA a σ)) (XL ad) (LA s) s H locs) (hl : lv_has ls 7 (LLV a r9 o b x4)) : W p l e room_1 s m #[Value.ref b] below meth c H locs cells slots Q (F0 m 500 ls []) := by
  have hx := fx.1
  have hb := fx.2.1
  have hl : lv_has ls 7 [(4, .int x4), (0, .ref b), (1, .ref (a 0)), (2, .ref (r9 0)), (3, .ref o)] := hl
  refine lv_aload_n (pc := 500) hx hb d_law_500 rfl (lv_at hl 2 rfl) ?_
  refine lv_aload_n (pc := 501) hx hb d_law_501 rfl (lv_at hl 1 rfl) ?_
  refine lv_iload (pc := 502) hx hb d_law_502 (lv_at hl 0 rfl) ?_
  refine lv_iconst (pc := 504) (v := 1) hx hb d_law_504 (by decide) ?_
  refine lv_iadd (pc := 505) hx hb d_law_505 ?_
  refine va_sld (pc := 506) hx hb hX hbl (Nat.not_le.mpr hbl) hw.2.2.2.1 hin.1 d_law_506 ?_
  refine lv_aload_n (pc := 507) hx hb d_law_507 rfl (lv_at hl 4 rfl) ?_
  refine rsIu (pc := 508) (u := wR cA r9 τ) (w0 := [oc cA o g] ++ wC cA a σ) hw (rnW (n := 3) (pc := 508) (As := [.ref (a 0), .int (xs (x4 + 1).toNatClampNeg), .ref o]) fx (hl_run hfl (Φ := fun k g9 u => f_R_run (fun b9 v => lawT Rel k (g9 0) u b9 v) τ (xs (x4 + 1).toNatClampNeg)) (PT σ τ g (xs (x4 + 1).toNatClampNeg) hR) _) (pw_blind xtL) (fun U hU hW => ⟨rfl, cx_pre xtL (cxt_pre hw) hU hW⟩) kw_805 kw_806 kw_0 kw_807 (by decide +kernel) rfl ⟨Nat.le_of_ble_eq_true rfl, Nat.le_of_ble_eq_true rfl⟩ hl.1 (Nat.le_of_ble_eq_true rfl) d_law_508 ⟨by show cells + 1 ≤ 601024; omega, by show slots + 6 ≤ 7293034; omega⟩) (fun _ _ h => h) (fun k q H locs hw h => ?_)
  refine W.eq (g2 := F0 m 511 ls [.int k]) rfl ?_
  refine lv_istore (pc := 511) (lv' := [(5, .int k), (4, .int x4), (0, .ref b), (1, .ref (a 0)), (2, .ref (r9 0)), (3, .ref o)]) hx hb d_law_511 hl (by decide) rfl (fun ls hl => ?_)
  refine lv_aload_n (pc := 513) hx hb d_law_513 rfl (lv_at hl 4 rfl) ?_
  refine lv_aload_n (pc := 514) hx hb d_law_514 rfl (lv_at hl 2 rfl) ?_
  refine lv_iload (pc := 515) hx hb d_law_515 (lv_at hl 1 rfl) ?_
  refine lv_iconst (pc := 517) (v := 1) hx hb d_law_517 (by decide) ?_
  refine lv_iadd (pc := 518) hx hb d_law_518 ?_
  refine va_sld (pc := 519) hx hb hX hbl (Nat.not_le.mpr hbl) hw.2.2.2.1 hin.1 d_law_519 ?_
  have hw := cx_rot hw
  refine rsIu (pc := 520) (u := [oc cA o q.1] ++ wC cA a q.2) (w0 := wR cA r9 τ) (wf := wR cA r9) hw (rnV (pc := 520) (As := [.int (xs (x4 + 1).toNatClampNeg)]) (rest := []) xtL fx (cxt_pre hw) (c_R_run xtL h _) cw_law_82 (rcR_0 (cxt_pre hw)) rfl ⟨Nat.le_of_ble_eq_true rfl, Nat.le_of_ble_eq_true rfl⟩ hl.1 (Nat.le_of_ble_eq_true rfl) d_law_520 ⟨by show _ ≤ 601024; omega, by show _ ≤ 7293034; omega⟩) (fun _ _ h => h) (fun b9 τ1 H locs hw h => ?_)
  refine W.eq (g2 := F0 m 523 ls [.int b9]) rfl ?_
  refine lv_istore (pc := 523) (lv' := [(6, .int b9), (5, .int k), (4, .int x4), (0, .ref b), (1, .ref (a 0)), (2, .ref (r9 0)), (3, .ref o)]) hx hb d_law_523 hl (by decide) rfl (fun ls hl => ?_)
  refine lv_aload_n (pc := 525) hx hb d_law_525 rfl (lv_at hl 5 rfl) ?_
  refine rsIu (pc := 526) (u := [oc cA o q.1] ++ wC cA a q.2) (w0 := wR cA r9 τ1) (wf := wR cA r9) hw (rnV (pc := 526) (As := []) (rest := []) xtL fx (cxt_pre hw) (c_R_thrown xtL h _) cw_law_60 (rcR_0 (cxt_pre hw)) rfl ⟨Nat.le_of_ble_eq_true rfl, Nat.le_of_ble_eq_true rfl⟩ hl.1 (Nat.le_of_ble_eq_true rfl) d_law_526 ⟨by show _ ≤ 601024; omega, by show _ ≤ 7293034; omega⟩) (fun _ _ h => h) (fun t9 τ2 H locs hw h => ?_)
  refine W.eq (g2 := F0 m 529 ls [.int t9]) rfl ?_
  refine lv_iload (pc := 529) hx hb d_law_529 (lv_at hl 1 rfl) ?_
  refine lv_icmp_eq (pc := 531) (tgt := 536) hx hb d_law_531 (by decide) (fun c9 => ?_) (fun c9 => absurd h.1 c9)
  refine lv_iload (pc := 536) hx hb d_law_536 (lv_at hl 1 rfl) ?_
  have hw := cx_rot hw
  refine lv_if_ne (pc := 538) (tgt := 553) hx hb d_law_538 (by decide) (fun c9 => ?_) (fun c9 => ?_)
  · refine lv_goto (pc := 553) (tgt := 945) hx hb d_law_553 (by decide) ?_
    exact W.widen (k := cells + 2) (n := slots + 12) (by omega) (by omega) (kk h.2.2 hw (lv_sub hl [2, 3, 4, 5, 6] rfl))
  · refine lv_aload_n (pc := 541) hx hb d_law_541 rfl (lv_at hl 6 rfl) ?_
    refine lv_iconst (pc := 542) (v := 0) hx hb d_law_542 (by decide) ?_
    refine va_lald (pc := 543) fx.1 fx.2.1 hw.1 hw.2.1 19 1 rfl rfl (by unfold vp_in; decide) d_law_543 ?_
    refine lv_iload (pc := 544) hx hb d_law_544 (lv_at hl 0 rfl) ?_
    refine lv_i2l (pc := 546) hx hb d_law_546 rfl ?_
    refine W.lcmp (pc := 547) hx hb d_law_547 ?_
    refine lv_if_eq (pc := 548) (tgt := 553) hx hb d_law_548 (by decide) (fun c8 => ?_) (fun c8 => absurd ((lg_cmp_eq _ _).mpr (h.2.1 c9)) c8)
    refine lv_goto (pc := 553) (tgt := 945) hx hb d_law_553 (by decide) ?_
    exact W.widen (k := cells + 2) (n := slots + 12) (by omega) (by omega) (kk h.2.2 hw (lv_sub hl [2, 3, 4, 5, 6] rfl))
set_option maxHeartbeats 4000000 in
set_option maxRecDepth 100000 in
theorem lop_7 (hfl : l.flags = flags0) (fx : CallFix p m c code 7 s #[Value.ref b] GW "NovaDeskLaw") (hX : va_X b L xs s s.heap) (hbl : b < s.heap.size) (PT : PT_why Rel0 Rel) (hin : vp_in (x4 + 1) L ∧ vp_in (x4 + 2) L ∧ vp_in (x4 + 3) L ∧ vp_in (x4 + 4) L ∧ vp_in (x4 + 5) L) (hc : cells + 2 ≤ 601024 ∧ slots + 12 ≤ 7293034) (kk : LK p l e s m b below meth c Q D cA a r9 ad o Rel x4 (cells + 2) (slots + 12)) (hR : Rel0 σ τ) (hw : CX D vcl (tyl cA) (wR cA r9 τ ++ ([oc cA o g] ++ wC cA a σ)) (XL ad) (LA s) s H locs) (hl : lv_has ls 7 (LLV a r9 o b x4)) : W p l e room_1 s m #[Value.ref b] below meth c H locs cells slots Q (F0 m 556 ls []) := by
  have hx := fx.1
  have hb := fx.2.1
  have hl : lv_has ls 7 [(4, .int x4), (0, .ref b), (1, .ref (a 0)), (2, .ref (r9 0)), (3, .ref o)] := hl
  refine lv_aload_n (pc := 556) hx hb d_law_556 rfl (lv_at hl 2 rfl) ?_
  have hw : CX D vcl (tyl cA) ((wR cA r9 τ ++ [oc cA o g]) ++ wC cA a σ) (XL ad) (LA s) s H locs := cx_e (List.append_assoc _ _ _).symm hw
  have h := PT σ τ hR
  refine rsIu (pc := 557) (u := wR cA r9 τ ++ [oc cA o g]) (w0 := wC cA a σ) (wf := wC cA a) hw (rnV (pc := 557) (As := []) (rest := []) xtC fx (cx_w xl_c (cxt_pre hw)) (c_N_why h _) cw_law_83 (rcC_0 (cx_w xl_c (cxt_pre hw))) rfl ⟨Nat.le_of_ble_eq_true rfl, Nat.le_of_ble_eq_true rfl⟩ hl.1 (Nat.le_of_ble_eq_true rfl) d_law_557 ⟨by show _ ≤ 601024; omega, by show _ ≤ 7293034; omega⟩) (fun _ _ h => h) (fun k u H locs hw h => ?_)
  refine W.eq (g2 := F0 m 560 ls [.int k]) rfl ?_
  have hw : CX D vcl (tyl cA) (wR cA r9 τ ++ ([oc cA o g] ++ wC cA a u)) (XL ad) (LA s) s H locs := cx_e (List.append_assoc _ _ _) hw
  refine lv_aload_n (pc := 560) hx hb d_law_560 rfl (lv_at hl 3 rfl) ?_
  have hw := cx_rot hw
  refine rsIu (pc := 561) (u := [oc cA o g] ++ wC cA a u) (w0 := wR cA r9 τ) (wf := wR cA r9) hw (rnV (pc := 561) (As := []) (rest := [.int k]) xtL fx (cxt_pre hw) (c_R_why xtL h _) cw_law_86 (rcR_0 (cxt_pre hw)) rfl ⟨Nat.le_of_ble_eq_true rfl, Nat.le_of_ble_eq_true rfl⟩ hl.1 (Nat.le_of_ble_eq_true rfl) d_law_561 ⟨by show _ ≤ 601024; omega, by show _ ≤ 7293034; omega⟩) (fun _ _ h => h) (fun b9 τ1 H locs hw h => ?_)
  refine W.eq (g2 := F0 m 564 ls [.int b9, .int k]) rfl ?_
  refine lv_icmp_eq (pc := 564) (tgt := 945) hx hb d_law_564 (by decide) (fun c9 => ?_) (fun c9 => absurd h.1 c9)
  have hw := cx_rot hw
  exact W.widen (k := cells + 2) (n := slots + 12) (by omega) (by omega) (kk h.2 hw (lv_sub hl [0, 1, 2, 3, 4] rfl))
set_option maxHeartbeats 4000000 in
set_option maxRecDepth 100000 in
theorem lop_8 (hfl : l.flags = flags0) (fx : CallFix p m c code 7 s #[Value.ref b] GW "NovaDeskLaw") (hX : va_X b L xs s s.heap) (hbl : b < s.heap.size) (PT : PT_printed Rel0 Rel) (hin : vp_in (x4 + 1) L ∧ vp_in (x4 + 2) L ∧ vp_in (x4 + 3) L ∧ vp_in (x4 + 4) L ∧ vp_in (x4 + 5) L) (hc : cells + 2 ≤ 601024 ∧ slots + 12 ≤ 7293034) (kk : LK p l e s m b below meth c Q D cA a r9 ad o Rel x4 (cells + 2) (slots + 12)) (hR : Rel0 σ τ) (hw : CX D vcl (tyl cA) (wR cA r9 τ ++ ([oc cA o g] ++ wC cA a σ)) (XL ad) (LA s) s H locs) (hl : lv_has ls 7 (LLV a r9 o b x4)) : W p l e room_1 s m #[Value.ref b] below meth c H locs cells slots Q (F0 m 569 ls []) := by
  have hx := fx.1
  have hb := fx.2.1
  have hl : lv_has ls 7 [(4, .int x4), (0, .ref b), (1, .ref (a 0)), (2, .ref (r9 0)), (3, .ref o)] := hl
  refine lv_aload_n (pc := 569) hx hb d_law_569 rfl (lv_at hl 2 rfl) ?_
  refine lv_aload_n (pc := 570) hx hb d_law_570 rfl (lv_at hl 1 rfl) ?_
  refine lv_iload (pc := 571) hx hb d_law_571 (lv_at hl 0 rfl) ?_
  refine lv_iconst (pc := 573) (v := 1) hx hb d_law_573 (by decide) ?_
  refine lv_iadd (pc := 574) hx hb d_law_574 ?_
  refine va_sld (pc := 575) hx hb hX hbl (Nat.not_le.mpr hbl) hw.2.2.2.1 hin.1 d_law_575 ?_
  have hw : CX D vcl (tyl cA) ((wR cA r9 τ ++ [oc cA o g]) ++ wC cA a σ) (XL ad) (LA s) s H locs := cx_e (List.append_assoc _ _ _).symm hw
  have h := PT σ τ (xs (x4 + 1).toNatClampNeg) hR
  refine rsIu (pc := 576) (u := wR cA r9 τ ++ [oc cA o g]) (w0 := wC cA a σ) (wf := wC cA a) hw (rnV (pc := 576) (As := [.int (xs (x4 + 1).toNatClampNeg)]) (rest := []) xtC fx (cx_w xl_c (cxt_pre hw)) (c_N_printed h _) cw_law_87 (rcC_0 (cx_w xl_c (cxt_pre hw))) rfl ⟨Nat.le_of_ble_eq_true rfl, Nat.le_of_ble_eq_true rfl⟩ hl.1 (Nat.le_of_ble_eq_true rfl) d_law_576 ⟨by show _ ≤ 601024; omega, by show _ ≤ 7293034; omega⟩) (fun _ _ h => h) (fun k u H locs hw h => ?_)
  refine W.eq (g2 := F0 m 579 ls [.int k]) rfl ?_
  have hw : CX D vcl (tyl cA) (wR cA r9 τ ++ ([oc cA o g] ++ wC cA a u)) (XL ad) (LA s) s H locs := cx_e (List.append_assoc _ _ _) hw
  refine lv_aload_n (pc := 579) hx hb d_law_579 rfl (lv_at hl 3 rfl) ?_
  refine lv_aload_n (pc := 580) hx hb d_law_580 rfl (lv_at hl 1 rfl) ?_
  refine lv_iload (pc := 581) hx hb d_law_581 (lv_at hl 0 rfl) ?_
  refine lv_iconst (pc := 583) (v := 1) hx hb d_law_583 (by decide) ?_
  refine lv_iadd (pc := 584) hx hb d_law_584 ?_
  refine va_sld (pc := 585) hx hb hX hbl (Nat.not_le.mpr hbl) hw.2.2.2.1 hin.1 d_law_585 ?_
  have hw := cx_rot hw
  refine rsIu (pc := 586) (u := [oc cA o g] ++ wC cA a u) (w0 := wR cA r9 τ) (wf := wR cA r9) hw (rnV (pc := 586) (As := [.int (xs (x4 + 1).toNatClampNeg)]) (rest := [.int k]) xtL fx (cxt_pre hw) (c_R_printed xtL h _) cw_law_90 (rcR_0 (cxt_pre hw)) rfl ⟨Nat.le_of_ble_eq_true rfl, Nat.le_of_ble_eq_true rfl⟩ hl.1 (Nat.le_of_ble_eq_true rfl) d_law_586 ⟨by show _ ≤ 601024; omega, by show _ ≤ 7293034; omega⟩) (fun _ _ h => h) (fun b9 τ1 H locs hw h => ?_)
  refine W.eq (g2 := F0 m 589 ls [.int b9, .int k]) rfl ?_
  refine lv_icmp_eq (pc := 589) (tgt := 945) hx hb d_law_589 (by decide) (fun c9 => ?_) (fun c9 => absurd h.1 c9)
  have hw := cx_rot hw
  exact W.widen (k := cells + 2) (n := slots + 12) (by omega) (by omega) (kk h.2 hw (lv_sub hl [0, 1, 2, 3, 4] rfl))
set_option maxHeartbeats 4000000 in
set_option maxRecDepth 100000 in
theorem lop_9 (hfl : l.flags = flags0) (fx : CallFix p m c code 7 s #[Value.ref b] GW "NovaDeskLaw") (hX : va_X b L xs s s.heap) (hbl : b < s.heap.size) (PT : PT_tear Rel0 Rel) (hin : vp_in (x4 + 1) L ∧ vp_in (x4 + 2) L ∧ vp_in (x4 + 3) L ∧ vp_in (x4 + 4) L ∧ vp_in (x4 + 5) L) (hc : cells + 2 ≤ 601024 ∧ slots + 12 ≤ 7293034) (kk : LK p l e s m b below meth c Q D cA a r9 ad o Rel x4 (cells + 2) (slots + 12)) (hR : Rel0 σ τ) (hw : CX D vcl (tyl cA) (wR cA r9 τ ++ ([oc cA o g] ++ wC cA a σ)) (XL ad) (LA s) s H locs) (hl : lv_has ls 7 (LLV a r9 o b x4)) : W p l e room_1 s m #[Value.ref b] below meth c H locs cells slots Q (F0 m 594 ls []) := by
  have hx := fx.1
  have hb := fx.2.1
  have hl : lv_has ls 7 [(4, .int x4), (0, .ref b), (1, .ref (a 0)), (2, .ref (r9 0)), (3, .ref o)] := hl
  refine lv_aload_n (pc := 594) hx hb d_law_594 rfl (lv_at hl 2 rfl) ?_
  have hw : CX D vcl (tyl cA) ((wR cA r9 τ ++ [oc cA o g]) ++ wC cA a σ) (XL ad) (LA s) s H locs := cx_e (List.append_assoc _ _ _).symm hw
  have h := PT σ τ hR
  refine rsIu (pc := 595) (u := wR cA r9 τ ++ [oc cA o g]) (w0 := wC cA a σ) (wf := wC cA a) hw (rnV (pc := 595) (As := []) (rest := []) xtC fx (cx_w xl_c (cxt_pre hw)) (c_N_tear h _) cw_law_91 (rcC_0 (cx_w xl_c (cxt_pre hw))) rfl ⟨Nat.le_of_ble_eq_true rfl, Nat.le_of_ble_eq_true rfl⟩ hl.1 (Nat.le_of_ble_eq_true rfl) d_law_595 ⟨by show _ ≤ 601024; omega, by show _ ≤ 7293034; omega⟩) (fun _ _ h => h) (fun k u H locs hw h => ?_)
  refine W.eq (g2 := F0 m 598 ls [.int k]) rfl ?_
  have hw : CX D vcl (tyl cA) (wR cA r9 τ ++ ([oc cA o g] ++ wC cA a u)) (XL ad) (LA s) s H locs := cx_e (List.append_assoc _ _ _) hw
  refine lv_aload_n (pc := 598) hx hb d_law_598 rfl (lv_at hl 3 rfl) ?_
  have hw := cx_rot hw
  refine rsIu (pc := 599) (u := [oc cA o g] ++ wC cA a u) (w0 := wR cA r9 τ) (wf := wR cA r9) hw (rnV (pc := 599) (As := []) (rest := [.int k]) xtL fx (cxt_pre hw) (c_R_tear xtL h _) cw_law_94 (rcR_0 (cxt_pre hw)) rfl ⟨Nat.le_of_ble_eq_true rfl, Nat.le_of_ble_eq_true rfl⟩ hl.1 (Nat.le_of_ble_eq_true rfl) d_law_599 ⟨by show _ ≤ 601024; omega, by show _ ≤ 7293034; omega⟩) (fun _ _ h => h) (fun b9 τ1 H locs hw h => ?_)
  refine W.eq (g2 := F0 m 602 ls [.int b9, .int k]) rfl ?_
  refine lv_icmp_eq (pc := 602) (tgt := 945) hx hb d_law_602 (by decide) (fun c9 => ?_) (fun c9 => absurd h.1 c9)
  have hw := cx_rot hw
  exact W.widen (k := cells + 2) (n := slots + 12) (by omega) (by omega) (kk h.2 hw (lv_sub hl [0, 1, 2, 3, 4] rfl))
set_option maxHeartbeats 4000000 in
set_option maxRecDepth 100000 in
theorem lop_10 (hfl : l.flags = flags0) (fx : CallFix p m c code 7 s #[Value.ref b] GW "NovaDeskLaw") (hX : va_X b L xs s s.heap) (hbl : b < s.heap.size) (PT : PT_reset Rel0 Rel) (hin : vp_in (x4 + 1) L ∧ vp_in (x4 + 2) L ∧ vp_in (x4 + 3) L ∧ vp_in (x4 + 4) L ∧ vp_in (x4 + 5) L) (hc : cells + 2 ≤ 601024 ∧ slots + 12 ≤ 7293034) (kk : LK p l e s m b below meth c Q D cA a r9 ad o Rel x4 (cells + 2) (slots + 12)) (hR : Rel0 σ τ) (hw : CX D vcl (tyl cA) (wR cA r9 τ ++ ([oc cA o g] ++ wC cA a σ)) (XL ad) (LA s) s H locs) (hl : lv_has ls 7 (LLV a r9 o b x4)) : W p l e room_1 s m #[Value.ref b] below meth c H locs cells slots Q (F0 m 607 ls []) := by
  have hx := fx.1
  have hb := fx.2.1
  have hl : lv_has ls 7 [(4, .int x4), (0, .ref b), (1, .ref (a 0)), (2, .ref (r9 0)), (3, .ref o)] := hl
  refine lv_aload_n (pc := 607) hx hb d_law_607 rfl (lv_at hl 2 rfl) ?_
  have hw : CX D vcl (tyl cA) ((wR cA r9 τ ++ [oc cA o g]) ++ wC cA a σ) (XL ad) (LA s) s H locs := cx_e (List.append_assoc _ _ _).symm hw
  have h := PT σ τ hR
  refine rsVu (pc := 608) (u := wR cA r9 τ ++ [oc cA o g]) (w0 := wC cA a σ) (wf := wC cA a) hw (rnV (pc := 608) (As := []) (rest := []) xtC fx (cx_w xl_c (cxt_pre hw)) (c_N_reset h _) cw_law_95 (rcC_0 (cx_w xl_c (cxt_pre hw))) rfl ⟨Nat.le_of_ble_eq_true rfl, Nat.le_of_ble_eq_true rfl⟩ hl.1 (Nat.le_of_ble_eq_true rfl) d_law_608 ⟨by show _ ≤ 601024; omega, by show _ ≤ 7293034; omega⟩) (fun _ _ h => h) (fun u H locs hw h => ?_)
  refine W.eq (g2 := F0 m 611 ls []) rfl ?_
  have hw : CX D vcl (tyl cA) (wR cA r9 τ ++ ([oc cA o g] ++ wC cA a u)) (XL ad) (LA s) s H locs := cx_e (List.append_assoc _ _ _) hw
  refine lv_aload_n (pc := 611) hx hb d_law_611 rfl (lv_at hl 3 rfl) ?_
  have hw := cx_rot hw
  refine rsVu (pc := 612) (u := [oc cA o g] ++ wC cA a u) (w0 := wR cA r9 τ) (wf := wR cA r9) hw (rnV (pc := 612) (As := []) (rest := []) xtL fx (cxt_pre hw) (c_R_reset xtL h _) cw_law_98 (rcR_0 (cxt_pre hw)) rfl ⟨Nat.le_of_ble_eq_true rfl, Nat.le_of_ble_eq_true rfl⟩ hl.1 (Nat.le_of_ble_eq_true rfl) d_law_612 ⟨by show _ ≤ 601024; omega, by show _ ≤ 7293034; omega⟩) (fun _ _ h => h) (fun τ1 H locs hw h => ?_)
  refine W.eq (g2 := F0 m 615 ls []) rfl ?_
  refine lv_goto (pc := 615) (tgt := 945) hx hb d_law_615 (by decide) ?_
  have hw := cx_rot hw
  exact W.widen (k := cells + 2) (n := slots + 12) (by omega) (by omega) (kk h hw (lv_sub hl [0, 1, 2, 3, 4] rfl))
set_option maxHeartbeats 4000000 in
set_option maxRecDepth 100000 in
theorem lop_11 (hfl : l.flags = flags0) (fx : CallFix p m c code 7 s #[Value.ref b] GW "NovaDeskLaw") (hX : va_X b L xs s s.heap) (hbl : b < s.heap.size) (PT : PT_feed Rel0 Rel) (hin : vp_in (x4 + 1) L ∧ vp_in (x4 + 2) L ∧ vp_in (x4 + 3) L ∧ vp_in (x4 + 4) L ∧ vp_in (x4 + 5) L) (hc : cells + 2 ≤ 601024 ∧ slots + 12 ≤ 7293034) (kk : LK p l e s m b below meth c Q D cA a r9 ad o Rel x4 (cells + 2) (slots + 12)) (hR : Rel0 σ τ) (hw : CX D vcl (tyl cA) (wR cA r9 τ ++ ([oc cA o g] ++ wC cA a σ)) (XL ad) (LA s) s H locs) (hl : lv_has ls 7 (LLV a r9 o b x4)) : W p l e room_1 s m #[Value.ref b] below meth c H locs cells slots Q (F0 m 618 ls []) := by
  have hx := fx.1
  have hb := fx.2.1
  have hl : lv_has ls 7 [(4, .int x4), (0, .ref b), (1, .ref (a 0)), (2, .ref (r9 0)), (3, .ref o)] := hl
  refine lv_aload_n (pc := 618) hx hb d_law_618 rfl (lv_at hl 2 rfl) ?_
  refine lv_aload_n (pc := 619) hx hb d_law_619 rfl (lv_at hl 1 rfl) ?_
  refine lv_iload (pc := 620) hx hb d_law_620 (lv_at hl 0 rfl) ?_
  refine lv_iconst (pc := 622) (v := 1) hx hb d_law_622 (by decide) ?_
  refine lv_iadd (pc := 623) hx hb d_law_623 ?_
  refine va_sld (pc := 624) hx hb hX hbl (Nat.not_le.mpr hbl) hw.2.2.2.1 hin.1 d_law_624 ?_
  refine lv_aload_n (pc := 625) hx hb d_law_625 rfl (lv_at hl 1 rfl) ?_
  refine lv_iload (pc := 626) hx hb d_law_626 (lv_at hl 0 rfl) ?_
  refine lv_iconst (pc := 628) (v := 2) hx hb d_law_628 (by decide) ?_
  refine lv_iadd (pc := 629) hx hb d_law_629 ?_
  refine va_sld (pc := 630) hx hb hX hbl (Nat.not_le.mpr hbl) hw.2.2.2.1 hin.2.1 d_law_630 ?_
  refine lv_aload_n (pc := 631) hx hb d_law_631 rfl (lv_at hl 1 rfl) ?_
  refine lv_iload (pc := 632) hx hb d_law_632 (lv_at hl 0 rfl) ?_
  refine lv_iconst (pc := 634) (v := 3) hx hb d_law_634 (by decide) ?_
  refine lv_iadd (pc := 635) hx hb d_law_635 ?_
  refine va_sld (pc := 636) hx hb hX hbl (Nat.not_le.mpr hbl) hw.2.2.2.1 hin.2.2.1 d_law_636 ?_
  refine lv_aload_n (pc := 637) hx hb d_law_637 rfl (lv_at hl 1 rfl) ?_
  refine lv_iload (pc := 638) hx hb d_law_638 (lv_at hl 0 rfl) ?_
  refine lv_iconst (pc := 640) (v := 4) hx hb d_law_640 (by decide) ?_
  refine lv_iadd (pc := 641) hx hb d_law_641 ?_
  refine va_sld (pc := 642) hx hb hX hbl (Nat.not_le.mpr hbl) hw.2.2.2.1 hin.2.2.2.1 d_law_642 ?_
  refine lv_aload_n (pc := 643) hx hb d_law_643 rfl (lv_at hl 1 rfl) ?_
  refine lv_iload (pc := 644) hx hb d_law_644 (lv_at hl 0 rfl) ?_
  refine lv_iconst (pc := 646) (v := 5) hx hb d_law_646 (by decide) ?_
  refine lv_iadd (pc := 647) hx hb d_law_647 ?_
  refine va_sld (pc := 648) hx hb hX hbl (Nat.not_le.mpr hbl) hw.2.2.2.1 hin.2.2.2.2 d_law_648 ?_
  refine lv_aload_n (pc := 649) hx hb d_law_649 rfl (lv_at hl 4 rfl) ?_
  refine rsIu (pc := 650) (u := wR cA r9 τ) (w0 := [oc cA o g] ++ wC cA a σ) hw (rnW (n := 7) (pc := 650) (As := [.ref (a 0), .int (xs (x4 + 1).toNatClampNeg), .int (xs (x4 + 2).toNatClampNeg), .int (xs (x4 + 3).toNatClampNeg), .int (xs (x4 + 4).toNatClampNeg), .int (xs (x4 + 5).toNatClampNeg), .ref o]) fx (hl_feed hfl (Φ := fun k g9 u => f_R_feed (fun b9 v => lawT Rel k (g9 0) u b9 v) τ (xs (x4 + 1).toNatClampNeg) (xs (x4 + 2).toNatClampNeg) (xs (x4 + 3).toNatClampNeg) (xs (x4 + 4).toNatClampNeg) (xs (x4 + 5).toNatClampNeg)) (PT σ τ g (xs (x4 + 1).toNatClampNeg) (xs (x4 + 2).toNatClampNeg) (xs (x4 + 3).toNatClampNeg) (xs (x4 + 4).toNatClampNeg) (xs (x4 + 5).toNatClampNeg) hR) _) (pw_blind xtL) (fun U hU hW => ⟨rfl, cx_pre xtL (cxt_pre hw) hU hW⟩) kw_964 kw_965 kw_0 kw_966 (by decide +kernel) rfl ⟨Nat.le_of_ble_eq_true rfl, Nat.le_of_ble_eq_true rfl⟩ hl.1 (Nat.le_of_ble_eq_true rfl) d_law_650 ⟨by show cells + 1 ≤ 601024; omega, by show slots + 6 ≤ 7293034; omega⟩) (fun _ _ h => h) (fun k q H locs hw h => ?_)
  refine W.eq (g2 := F0 m 653 ls [.int k]) rfl ?_
  refine lv_istore (pc := 653) (lv' := [(5, .int k), (4, .int x4), (0, .ref b), (1, .ref (a 0)), (2, .ref (r9 0)), (3, .ref o)]) hx hb d_law_653 hl (by decide) rfl (fun ls hl => ?_)
  refine lv_aload_n (pc := 655) hx hb d_law_655 rfl (lv_at hl 4 rfl) ?_
  refine lv_aload_n (pc := 656) hx hb d_law_656 rfl (lv_at hl 2 rfl) ?_
  refine lv_iload (pc := 657) hx hb d_law_657 (lv_at hl 1 rfl) ?_
  refine lv_iconst (pc := 659) (v := 1) hx hb d_law_659 (by decide) ?_
  refine lv_iadd (pc := 660) hx hb d_law_660 ?_
  refine va_sld (pc := 661) hx hb hX hbl (Nat.not_le.mpr hbl) hw.2.2.2.1 hin.1 d_law_661 ?_
  refine lv_aload_n (pc := 662) hx hb d_law_662 rfl (lv_at hl 2 rfl) ?_
  refine lv_iload (pc := 663) hx hb d_law_663 (lv_at hl 1 rfl) ?_
  refine lv_iconst (pc := 665) (v := 2) hx hb d_law_665 (by decide) ?_
  refine lv_iadd (pc := 666) hx hb d_law_666 ?_
  refine va_sld (pc := 667) hx hb hX hbl (Nat.not_le.mpr hbl) hw.2.2.2.1 hin.2.1 d_law_667 ?_
  refine lv_aload_n (pc := 668) hx hb d_law_668 rfl (lv_at hl 2 rfl) ?_
  refine lv_iload (pc := 669) hx hb d_law_669 (lv_at hl 1 rfl) ?_
  refine lv_iconst (pc := 671) (v := 3) hx hb d_law_671 (by decide) ?_
  refine lv_iadd (pc := 672) hx hb d_law_672 ?_
  refine va_sld (pc := 673) hx hb hX hbl (Nat.not_le.mpr hbl) hw.2.2.2.1 hin.2.2.1 d_law_673 ?_
  refine lv_aload_n (pc := 674) hx hb d_law_674 rfl (lv_at hl 2 rfl) ?_
  refine lv_iload (pc := 675) hx hb d_law_675 (lv_at hl 1 rfl) ?_
  refine lv_iconst (pc := 677) (v := 4) hx hb d_law_677 (by decide) ?_
  refine lv_iadd (pc := 678) hx hb d_law_678 ?_
  refine va_sld (pc := 679) hx hb hX hbl (Nat.not_le.mpr hbl) hw.2.2.2.1 hin.2.2.2.1 d_law_679 ?_
  refine lv_aload_n (pc := 680) hx hb d_law_680 rfl (lv_at hl 2 rfl) ?_
  refine lv_iload (pc := 681) hx hb d_law_681 (lv_at hl 1 rfl) ?_
  refine lv_iconst (pc := 683) (v := 5) hx hb d_law_683 (by decide) ?_
  refine lv_iadd (pc := 684) hx hb d_law_684 ?_
  refine va_sld (pc := 685) hx hb hX hbl (Nat.not_le.mpr hbl) hw.2.2.2.1 hin.2.2.2.2 d_law_685 ?_
  have hw := cx_rot hw
  refine rsIu (pc := 686) (u := [oc cA o q.1] ++ wC cA a q.2) (w0 := wR cA r9 τ) (wf := wR cA r9) hw (rnV (pc := 686) (As := [.int (xs (x4 + 1).toNatClampNeg), .int (xs (x4 + 2).toNatClampNeg), .int (xs (x4 + 3).toNatClampNeg), .int (xs (x4 + 4).toNatClampNeg), .int (xs (x4 + 5).toNatClampNeg)]) (rest := []) xtL fx (cxt_pre hw) (c_R_feed xtL h _) cw_law_102 (rcR_0 (cxt_pre hw)) rfl ⟨Nat.le_of_ble_eq_true rfl, Nat.le_of_ble_eq_true rfl⟩ hl.1 (Nat.le_of_ble_eq_true rfl) d_law_686 ⟨by show _ ≤ 601024; omega, by show _ ≤ 7293034; omega⟩) (fun _ _ h => h) (fun b9 τ1 H locs hw h => ?_)
  refine W.eq (g2 := F0 m 689 ls [.int b9]) rfl ?_
  refine lv_istore (pc := 689) (lv' := [(6, .int b9), (5, .int k), (4, .int x4), (0, .ref b), (1, .ref (a 0)), (2, .ref (r9 0)), (3, .ref o)]) hx hb d_law_689 hl (by decide) rfl (fun ls hl => ?_)
  refine lv_aload_n (pc := 691) hx hb d_law_691 rfl (lv_at hl 5 rfl) ?_
  refine rsIu (pc := 692) (u := [oc cA o q.1] ++ wC cA a q.2) (w0 := wR cA r9 τ1) (wf := wR cA r9) hw (rnV (pc := 692) (As := []) (rest := []) xtL fx (cxt_pre hw) (c_R_thrown xtL h _) cw_law_60 (rcR_0 (cxt_pre hw)) rfl ⟨Nat.le_of_ble_eq_true rfl, Nat.le_of_ble_eq_true rfl⟩ hl.1 (Nat.le_of_ble_eq_true rfl) d_law_692 ⟨by show _ ≤ 601024; omega, by show _ ≤ 7293034; omega⟩) (fun _ _ h => h) (fun t9 τ2 H locs hw h => ?_)
  refine W.eq (g2 := F0 m 695 ls [.int t9]) rfl ?_
  refine lv_iload (pc := 695) hx hb d_law_695 (lv_at hl 1 rfl) ?_
  refine lv_icmp_eq (pc := 697) (tgt := 702) hx hb d_law_697 (by decide) (fun c9 => ?_) (fun c9 => absurd h.1 c9)
  refine lv_iload (pc := 702) hx hb d_law_702 (lv_at hl 1 rfl) ?_
  have hw := cx_rot hw
  refine lv_if_ne (pc := 704) (tgt := 719) hx hb d_law_704 (by decide) (fun c9 => ?_) (fun c9 => ?_)
  · refine lv_goto (pc := 719) (tgt := 945) hx hb d_law_719 (by decide) ?_
    exact W.widen (k := cells + 2) (n := slots + 12) (by omega) (by omega) (kk h.2.2 hw (lv_sub hl [2, 3, 4, 5, 6] rfl))
  · refine lv_aload_n (pc := 707) hx hb d_law_707 rfl (lv_at hl 6 rfl) ?_
    refine lv_iconst (pc := 708) (v := 0) hx hb d_law_708 (by decide) ?_
    refine va_lald (pc := 709) fx.1 fx.2.1 hw.1 hw.2.1 19 1 rfl rfl (by unfold vp_in; decide) d_law_709 ?_
    refine lv_iload (pc := 710) hx hb d_law_710 (lv_at hl 0 rfl) ?_
    refine lv_i2l (pc := 712) hx hb d_law_712 rfl ?_
    refine W.lcmp (pc := 713) hx hb d_law_713 ?_
    refine lv_if_eq (pc := 714) (tgt := 719) hx hb d_law_714 (by decide) (fun c8 => ?_) (fun c8 => absurd ((lg_cmp_eq _ _).mpr (h.2.1 c9)) c8)
    refine lv_goto (pc := 719) (tgt := 945) hx hb d_law_719 (by decide) ?_
    exact W.widen (k := cells + 2) (n := slots + 12) (by omega) (by omega) (kk h.2.2 hw (lv_sub hl [2, 3, 4, 5, 6] rfl))
set_option maxHeartbeats 4000000 in
set_option maxRecDepth 100000 in
theorem lop_12 (hfl : l.flags = flags0) (fx : CallFix p m c code 7 s #[Value.ref b] GW "NovaDeskLaw") (hX : va_X b L xs s s.heap) (hbl : b < s.heap.size) (PT : PT_end Rel0 Rel) (hin : vp_in (x4 + 1) L ∧ vp_in (x4 + 2) L ∧ vp_in (x4 + 3) L ∧ vp_in (x4 + 4) L ∧ vp_in (x4 + 5) L) (hc : cells + 2 ≤ 601024 ∧ slots + 12 ≤ 7293034) (kk : LK p l e s m b below meth c Q D cA a r9 ad o Rel x4 (cells + 2) (slots + 12)) (hR : Rel0 σ τ) (hw : CX D vcl (tyl cA) (wR cA r9 τ ++ ([oc cA o g] ++ wC cA a σ)) (XL ad) (LA s) s H locs) (hl : lv_has ls 7 (LLV a r9 o b x4)) : W p l e room_1 s m #[Value.ref b] below meth c H locs cells slots Q (F0 m 722 ls []) := by
  have hx := fx.1
  have hb := fx.2.1
  have hl : lv_has ls 7 [(4, .int x4), (0, .ref b), (1, .ref (a 0)), (2, .ref (r9 0)), (3, .ref o)] := hl
  refine lv_aload_n (pc := 722) hx hb d_law_722 rfl (lv_at hl 2 rfl) ?_
  refine lv_aload_n (pc := 723) hx hb d_law_723 rfl (lv_at hl 1 rfl) ?_
  refine lv_iload (pc := 724) hx hb d_law_724 (lv_at hl 0 rfl) ?_
  refine lv_iconst (pc := 726) (v := 1) hx hb d_law_726 (by decide) ?_
  refine lv_iadd (pc := 727) hx hb d_law_727 ?_
  refine va_sld (pc := 728) hx hb hX hbl (Nat.not_le.mpr hbl) hw.2.2.2.1 hin.1 d_law_728 ?_
  refine rsIu (pc := 729) (u := wR cA r9 τ) (w0 := [oc cA o g] ++ wC cA a σ) hw (rnW (n := 2) (pc := 729) (As := [.ref (a 0), .int (xs (x4 + 1).toNatClampNeg)]) fx (hl_end hfl (Φ := fun k g9 u => f_R_end (fun v => lawE Rel k u v) τ (xs (x4 + 1).toNatClampNeg)) (PT σ τ g (xs (x4 + 1).toNatClampNeg) hR) _) (pw_blind xtL) (fun U hU hW => ⟨rfl, cx_pre xtL (cxt_pre hw) hU hW⟩) kw_975 kw_976 kw_0 kw_977 (by decide +kernel) rfl ⟨Nat.le_of_ble_eq_true rfl, Nat.le_of_ble_eq_true rfl⟩ hl.1 (Nat.le_of_ble_eq_true rfl) d_law_729 ⟨by show cells + 1 ≤ 601024; omega, by show slots + 6 ≤ 7293034; omega⟩) (fun _ _ h => h) (fun k q H locs hw h => ?_)
  refine W.eq (g2 := F0 m 732 ls [.int k]) rfl ?_
  refine lv_istore (pc := 732) (lv' := [(5, .int k), (4, .int x4), (0, .ref b), (1, .ref (a 0)), (2, .ref (r9 0)), (3, .ref o)]) hx hb d_law_732 hl (by decide) rfl (fun ls hl => ?_)
  refine lv_aload_n (pc := 734) hx hb d_law_734 rfl (lv_at hl 4 rfl) ?_
  refine lv_aload_n (pc := 735) hx hb d_law_735 rfl (lv_at hl 2 rfl) ?_
  refine lv_iload (pc := 736) hx hb d_law_736 (lv_at hl 1 rfl) ?_
  refine lv_iconst (pc := 738) (v := 1) hx hb d_law_738 (by decide) ?_
  refine lv_iadd (pc := 739) hx hb d_law_739 ?_
  refine va_sld (pc := 740) hx hb hX hbl (Nat.not_le.mpr hbl) hw.2.2.2.1 hin.1 d_law_740 ?_
  have hw := cx_rot hw
  refine rsVu (pc := 741) (u := [oc cA o q.1] ++ wC cA a q.2) (w0 := wR cA r9 τ) (wf := wR cA r9) hw (rnV (pc := 741) (As := [.int (xs (x4 + 1).toNatClampNeg)]) (rest := []) xtL fx (cxt_pre hw) (c_R_end xtL h _) cw_law_106 (rcR_0 (cxt_pre hw)) rfl ⟨Nat.le_of_ble_eq_true rfl, Nat.le_of_ble_eq_true rfl⟩ hl.1 (Nat.le_of_ble_eq_true rfl) d_law_741 ⟨by show _ ≤ 601024; omega, by show _ ≤ 7293034; omega⟩) (fun _ _ h => h) (fun τ1 H locs hw h => ?_)
  refine W.eq (g2 := F0 m 744 ls []) rfl ?_
  refine lv_aload_n (pc := 744) hx hb d_law_744 rfl (lv_at hl 4 rfl) ?_
  refine rsIu (pc := 745) (u := [oc cA o q.1] ++ wC cA a q.2) (w0 := wR cA r9 τ1) (wf := wR cA r9) hw (rnV (pc := 745) (As := []) (rest := []) xtL fx (cxt_pre hw) (c_R_thrown xtL h _) cw_law_60 (rcR_0 (cxt_pre hw)) rfl ⟨Nat.le_of_ble_eq_true rfl, Nat.le_of_ble_eq_true rfl⟩ hl.1 (Nat.le_of_ble_eq_true rfl) d_law_745 ⟨by show _ ≤ 601024; omega, by show _ ≤ 7293034; omega⟩) (fun _ _ h => h) (fun t9 τ2 H locs hw h => ?_)
  refine W.eq (g2 := F0 m 748 ls [.int t9]) rfl ?_
  refine lv_iload (pc := 748) hx hb d_law_748 (lv_at hl 0 rfl) ?_
  refine lv_icmp_eq (pc := 750) (tgt := 755) hx hb d_law_750 (by decide) (fun c9 => ?_) (fun c9 => absurd h.1 c9)
  refine lv_goto (pc := 755) (tgt := 945) hx hb d_law_755 (by decide) ?_
  have hw := cx_rot hw
  exact W.widen (k := cells + 2) (n := slots + 12) (by omega) (by omega) (kk h.2 hw (lv_sub hl [1, 2, 3, 4, 5] rfl))
set_option maxHeartbeats 4000000 in
set_option maxRecDepth 100000 in
theorem lop_13 (hfl : l.flags = flags0) (fx : CallFix p m c code 7 s #[Value.ref b] GW "NovaDeskLaw") (hX : va_X b L xs s s.heap) (hbl : b < s.heap.size) (PT : PT_assemble Rel0 Rel) (hin : vp_in (x4 + 1) L ∧ vp_in (x4 + 2) L ∧ vp_in (x4 + 3) L ∧ vp_in (x4 + 4) L ∧ vp_in (x4 + 5) L) (hc : cells + 2 ≤ 601024 ∧ slots + 12 ≤ 7293034) (kk : LK p l e s m b below meth c Q D cA a r9 ad o Rel x4 (cells + 2) (slots + 12)) (hR : Rel0 σ τ) (hw : CX D vcl (tyl cA) (wR cA r9 τ ++ ([oc cA o g] ++ wC cA a σ)) (XL ad) (LA s) s H locs) (hl : lv_has ls 7 (LLV a r9 o b x4)) : W p l e room_1 s m #[Value.ref b] below meth c H locs cells slots Q (F0 m 758 ls []) := by
  have hx := fx.1
  have hb := fx.2.1
  have hl : lv_has ls 7 [(4, .int x4), (0, .ref b), (1, .ref (a 0)), (2, .ref (r9 0)), (3, .ref o)] := hl
  refine lv_aload_n (pc := 758) hx hb d_law_758 rfl (lv_at hl 2 rfl) ?_
  have hw : CX D vcl (tyl cA) ((wR cA r9 τ ++ [oc cA o g]) ++ wC cA a σ) (XL ad) (LA s) s H locs := cx_e (List.append_assoc _ _ _).symm hw
  have h := PT σ τ hR
  refine rsIu (pc := 759) (u := wR cA r9 τ ++ [oc cA o g]) (w0 := wC cA a σ) (wf := wC cA a) hw (rnV (pc := 759) (As := []) (rest := []) xtC fx (cx_w xl_c (cxt_pre hw)) (c_N_assemble h _) cw_law_107 (rcC_0 (cx_w xl_c (cxt_pre hw))) rfl ⟨Nat.le_of_ble_eq_true rfl, Nat.le_of_ble_eq_true rfl⟩ hl.1 (Nat.le_of_ble_eq_true rfl) d_law_759 ⟨by show _ ≤ 601024; omega, by show _ ≤ 7293034; omega⟩) (fun _ _ h => h) (fun k u H locs hw h => ?_)
  refine W.eq (g2 := F0 m 762 ls [.int k]) rfl ?_
  have hw : CX D vcl (tyl cA) (wR cA r9 τ ++ ([oc cA o g] ++ wC cA a u)) (XL ad) (LA s) s H locs := cx_e (List.append_assoc _ _ _) hw
  refine lv_aload_n (pc := 762) hx hb d_law_762 rfl (lv_at hl 3 rfl) ?_
  have hw := cx_rot hw
  refine rsIu (pc := 763) (u := [oc cA o g] ++ wC cA a u) (w0 := wR cA r9 τ) (wf := wR cA r9) hw (rnV (pc := 763) (As := []) (rest := [.int k]) xtL fx (cxt_pre hw) (c_R_assemble xtL h _) cw_law_110 (rcR_0 (cxt_pre hw)) rfl ⟨Nat.le_of_ble_eq_true rfl, Nat.le_of_ble_eq_true rfl⟩ hl.1 (Nat.le_of_ble_eq_true rfl) d_law_763 ⟨by show _ ≤ 601024; omega, by show _ ≤ 7293034; omega⟩) (fun _ _ h => h) (fun b9 τ1 H locs hw h => ?_)
  refine W.eq (g2 := F0 m 766 ls [.int b9, .int k]) rfl ?_
  refine lv_icmp_eq (pc := 766) (tgt := 945) hx hb d_law_766 (by decide) (fun c9 => ?_) (fun c9 => absurd h.1 c9)
  have hw := cx_rot hw
  exact W.widen (k := cells + 2) (n := slots + 12) (by omega) (by omega) (kk h.2 hw (lv_sub hl [0, 1, 2, 3, 4] rfl))
set_option maxHeartbeats 4000000 in
set_option maxRecDepth 100000 in
theorem lop_14 (hfl : l.flags = flags0) (fx : CallFix p m c code 7 s #[Value.ref b] GW "NovaDeskLaw") (hX : va_X b L xs s s.heap) (hbl : b < s.heap.size) (PT : PT_fault Rel0 Rel) (hin : vp_in (x4 + 1) L ∧ vp_in (x4 + 2) L ∧ vp_in (x4 + 3) L ∧ vp_in (x4 + 4) L ∧ vp_in (x4 + 5) L) (hc : cells + 2 ≤ 601024 ∧ slots + 12 ≤ 7293034) (kk : LK p l e s m b below meth c Q D cA a r9 ad o Rel x4 (cells + 2) (slots + 12)) (hR : Rel0 σ τ) (hw : CX D vcl (tyl cA) (wR cA r9 τ ++ ([oc cA o g] ++ wC cA a σ)) (XL ad) (LA s) s H locs) (hl : lv_has ls 7 (LLV a r9 o b x4)) : W p l e room_1 s m #[Value.ref b] below meth c H locs cells slots Q (F0 m 771 ls []) := by
  have hx := fx.1
  have hb := fx.2.1
  have hl : lv_has ls 7 [(4, .int x4), (0, .ref b), (1, .ref (a 0)), (2, .ref (r9 0)), (3, .ref o)] := hl
  refine lv_aload_n (pc := 771) hx hb d_law_771 rfl (lv_at hl 2 rfl) ?_
  refine lv_aload_n (pc := 772) hx hb d_law_772 rfl (lv_at hl 1 rfl) ?_
  refine lv_iload (pc := 773) hx hb d_law_773 (lv_at hl 0 rfl) ?_
  refine lv_iconst (pc := 775) (v := 1) hx hb d_law_775 (by decide) ?_
  refine lv_iadd (pc := 776) hx hb d_law_776 ?_
  refine va_sld (pc := 777) hx hb hX hbl (Nat.not_le.mpr hbl) hw.2.2.2.1 hin.1 d_law_777 ?_
  refine lv_aload_n (pc := 778) hx hb d_law_778 rfl (lv_at hl 4 rfl) ?_
  refine rsIu (pc := 779) (u := wR cA r9 τ) (w0 := [oc cA o g] ++ wC cA a σ) hw (rnW (n := 3) (pc := 779) (As := [.ref (a 0), .int (xs (x4 + 1).toNatClampNeg), .ref o]) fx (hl_fault hfl (Φ := fun k g9 u => f_R_fault (fun b9 v => lawT Rel k (g9 0) u b9 v) τ (xs (x4 + 1).toNatClampNeg)) (PT σ τ g (xs (x4 + 1).toNatClampNeg) hR) _) (pw_blind xtL) (fun U hU hW => ⟨rfl, cx_pre xtL (cxt_pre hw) hU hW⟩) kw_982 kw_983 kw_0 kw_984 (by decide +kernel) rfl ⟨Nat.le_of_ble_eq_true rfl, Nat.le_of_ble_eq_true rfl⟩ hl.1 (Nat.le_of_ble_eq_true rfl) d_law_779 ⟨by show cells + 1 ≤ 601024; omega, by show slots + 6 ≤ 7293034; omega⟩) (fun _ _ h => h) (fun k q H locs hw h => ?_)
  refine W.eq (g2 := F0 m 782 ls [.int k]) rfl ?_
  refine lv_istore (pc := 782) (lv' := [(5, .int k), (4, .int x4), (0, .ref b), (1, .ref (a 0)), (2, .ref (r9 0)), (3, .ref o)]) hx hb d_law_782 hl (by decide) rfl (fun ls hl => ?_)
  refine lv_aload_n (pc := 784) hx hb d_law_784 rfl (lv_at hl 4 rfl) ?_
  refine lv_aload_n (pc := 785) hx hb d_law_785 rfl (lv_at hl 2 rfl) ?_
  refine lv_iload (pc := 786) hx hb d_law_786 (lv_at hl 1 rfl) ?_
  refine lv_iconst (pc := 788) (v := 1) hx hb d_law_788 (by decide) ?_
  refine lv_iadd (pc := 789) hx hb d_law_789 ?_
  refine va_sld (pc := 790) hx hb hX hbl (Nat.not_le.mpr hbl) hw.2.2.2.1 hin.1 d_law_790 ?_
  have hw := cx_rot hw
  refine rsIu (pc := 791) (u := [oc cA o q.1] ++ wC cA a q.2) (w0 := wR cA r9 τ) (wf := wR cA r9) hw (rnV (pc := 791) (As := [.int (xs (x4 + 1).toNatClampNeg)]) (rest := []) xtL fx (cxt_pre hw) (c_R_fault xtL h _) cw_law_113 (rcR_0 (cxt_pre hw)) rfl ⟨Nat.le_of_ble_eq_true rfl, Nat.le_of_ble_eq_true rfl⟩ hl.1 (Nat.le_of_ble_eq_true rfl) d_law_791 ⟨by show _ ≤ 601024; omega, by show _ ≤ 7293034; omega⟩) (fun _ _ h => h) (fun b9 τ1 H locs hw h => ?_)
  refine W.eq (g2 := F0 m 794 ls [.int b9]) rfl ?_
  refine lv_istore (pc := 794) (lv' := [(6, .int b9), (5, .int k), (4, .int x4), (0, .ref b), (1, .ref (a 0)), (2, .ref (r9 0)), (3, .ref o)]) hx hb d_law_794 hl (by decide) rfl (fun ls hl => ?_)
  refine lv_aload_n (pc := 796) hx hb d_law_796 rfl (lv_at hl 5 rfl) ?_
  refine rsIu (pc := 797) (u := [oc cA o q.1] ++ wC cA a q.2) (w0 := wR cA r9 τ1) (wf := wR cA r9) hw (rnV (pc := 797) (As := []) (rest := []) xtL fx (cxt_pre hw) (c_R_thrown xtL h _) cw_law_60 (rcR_0 (cxt_pre hw)) rfl ⟨Nat.le_of_ble_eq_true rfl, Nat.le_of_ble_eq_true rfl⟩ hl.1 (Nat.le_of_ble_eq_true rfl) d_law_797 ⟨by show _ ≤ 601024; omega, by show _ ≤ 7293034; omega⟩) (fun _ _ h => h) (fun t9 τ2 H locs hw h => ?_)
  refine W.eq (g2 := F0 m 800 ls [.int t9]) rfl ?_
  refine lv_iload (pc := 800) hx hb d_law_800 (lv_at hl 1 rfl) ?_
  refine lv_icmp_eq (pc := 802) (tgt := 807) hx hb d_law_802 (by decide) (fun c9 => ?_) (fun c9 => absurd h.1 c9)
  refine lv_iload (pc := 807) hx hb d_law_807 (lv_at hl 1 rfl) ?_
  have hw := cx_rot hw
  refine lv_if_ne (pc := 809) (tgt := 824) hx hb d_law_809 (by decide) (fun c9 => ?_) (fun c9 => ?_)
  · refine lv_goto (pc := 824) (tgt := 945) hx hb d_law_824 (by decide) ?_
    exact W.widen (k := cells + 2) (n := slots + 12) (by omega) (by omega) (kk h.2.2 hw (lv_sub hl [2, 3, 4, 5, 6] rfl))
  · refine lv_aload_n (pc := 812) hx hb d_law_812 rfl (lv_at hl 6 rfl) ?_
    refine lv_iconst (pc := 813) (v := 0) hx hb d_law_813 (by decide) ?_
    refine va_lald (pc := 814) fx.1 fx.2.1 hw.1 hw.2.1 19 1 rfl rfl (by unfold vp_in; decide) d_law_814 ?_
    refine lv_iload (pc := 815) hx hb d_law_815 (lv_at hl 0 rfl) ?_
    refine lv_i2l (pc := 817) hx hb d_law_817 rfl ?_
    refine W.lcmp (pc := 818) hx hb d_law_818 ?_
    refine lv_if_eq (pc := 819) (tgt := 824) hx hb d_law_819 (by decide) (fun c8 => ?_) (fun c8 => absurd ((lg_cmp_eq _ _).mpr (h.2.1 c9)) c8)
    refine lv_goto (pc := 824) (tgt := 945) hx hb d_law_824 (by decide) ?_
    exact W.widen (k := cells + 2) (n := slots + 12) (by omega) (by omega) (kk h.2.2 hw (lv_sub hl [2, 3, 4, 5, 6] rfl))
set_option maxHeartbeats 4000000 in
set_option maxRecDepth 100000 in
theorem lop_15 (hfl : l.flags = flags0) (fx : CallFix p m c code 7 s #[Value.ref b] GW "NovaDeskLaw") (hX : va_X b L xs s s.heap) (hbl : b < s.heap.size) (PT : PT_label Rel0 Rel) (hin : vp_in (x4 + 1) L ∧ vp_in (x4 + 2) L ∧ vp_in (x4 + 3) L ∧ vp_in (x4 + 4) L ∧ vp_in (x4 + 5) L) (hc : cells + 2 ≤ 601024 ∧ slots + 12 ≤ 7293034) (kk : LK p l e s m b below meth c Q D cA a r9 ad o Rel x4 (cells + 2) (slots + 12)) (hR : Rel0 σ τ) (hw : CX D vcl (tyl cA) (wR cA r9 τ ++ ([oc cA o g] ++ wC cA a σ)) (XL ad) (LA s) s H locs) (hl : lv_has ls 7 (LLV a r9 o b x4)) : W p l e room_1 s m #[Value.ref b] below meth c H locs cells slots Q (F0 m 827 ls []) := by
  have hx := fx.1
  have hb := fx.2.1
  have hl : lv_has ls 7 [(4, .int x4), (0, .ref b), (1, .ref (a 0)), (2, .ref (r9 0)), (3, .ref o)] := hl
  refine lv_aload_n (pc := 827) hx hb d_law_827 rfl (lv_at hl 2 rfl) ?_
  refine lv_aload_n (pc := 828) hx hb d_law_828 rfl (lv_at hl 1 rfl) ?_
  refine lv_iload (pc := 829) hx hb d_law_829 (lv_at hl 0 rfl) ?_
  refine lv_iconst (pc := 831) (v := 1) hx hb d_law_831 (by decide) ?_
  refine lv_iadd (pc := 832) hx hb d_law_832 ?_
  refine va_sld (pc := 833) hx hb hX hbl (Nat.not_le.mpr hbl) hw.2.2.2.1 hin.1 d_law_833 ?_
  refine lv_aload_n (pc := 834) hx hb d_law_834 rfl (lv_at hl 1 rfl) ?_
  refine lv_iload (pc := 835) hx hb d_law_835 (lv_at hl 0 rfl) ?_
  refine lv_iconst (pc := 837) (v := 2) hx hb d_law_837 (by decide) ?_
  refine lv_iadd (pc := 838) hx hb d_law_838 ?_
  refine va_sld (pc := 839) hx hb hX hbl (Nat.not_le.mpr hbl) hw.2.2.2.1 hin.2.1 d_law_839 ?_
  have hw : CX D vcl (tyl cA) ((wR cA r9 τ ++ [oc cA o g]) ++ wC cA a σ) (XL ad) (LA s) s H locs := cx_e (List.append_assoc _ _ _).symm hw
  have h := PT σ τ (xs (x4 + 1).toNatClampNeg) (xs (x4 + 2).toNatClampNeg) hR
  refine rsIu (pc := 840) (u := wR cA r9 τ ++ [oc cA o g]) (w0 := wC cA a σ) (wf := wC cA a) hw (rnV (pc := 840) (As := [.int (xs (x4 + 1).toNatClampNeg), .int (xs (x4 + 2).toNatClampNeg)]) (rest := []) xtC fx (cx_w xl_c (cxt_pre hw)) (c_N_label h _) cw_law_114 (rcC_0 (cx_w xl_c (cxt_pre hw))) rfl ⟨Nat.le_of_ble_eq_true rfl, Nat.le_of_ble_eq_true rfl⟩ hl.1 (Nat.le_of_ble_eq_true rfl) d_law_840 ⟨by show _ ≤ 601024; omega, by show _ ≤ 7293034; omega⟩) (fun _ _ h => h) (fun k u H locs hw h => ?_)
  refine W.eq (g2 := F0 m 843 ls [.int k]) rfl ?_
  have hw : CX D vcl (tyl cA) (wR cA r9 τ ++ ([oc cA o g] ++ wC cA a u)) (XL ad) (LA s) s H locs := cx_e (List.append_assoc _ _ _) hw
  refine lv_aload_n (pc := 843) hx hb d_law_843 rfl (lv_at hl 3 rfl) ?_
  refine lv_aload_n (pc := 844) hx hb d_law_844 rfl (lv_at hl 1 rfl) ?_
  refine lv_iload (pc := 845) hx hb d_law_845 (lv_at hl 0 rfl) ?_
  refine lv_iconst (pc := 847) (v := 1) hx hb d_law_847 (by decide) ?_
  refine lv_iadd (pc := 848) hx hb d_law_848 ?_
  refine va_sld (pc := 849) hx hb hX hbl (Nat.not_le.mpr hbl) hw.2.2.2.1 hin.1 d_law_849 ?_
  refine lv_aload_n (pc := 850) hx hb d_law_850 rfl (lv_at hl 1 rfl) ?_
  refine lv_iload (pc := 851) hx hb d_law_851 (lv_at hl 0 rfl) ?_
  refine lv_iconst (pc := 853) (v := 2) hx hb d_law_853 (by decide) ?_
  refine lv_iadd (pc := 854) hx hb d_law_854 ?_
  refine va_sld (pc := 855) hx hb hX hbl (Nat.not_le.mpr hbl) hw.2.2.2.1 hin.2.1 d_law_855 ?_
  have hw := cx_rot hw
  refine rsIu (pc := 856) (u := [oc cA o g] ++ wC cA a u) (w0 := wR cA r9 τ) (wf := wR cA r9) hw (rnV (pc := 856) (As := [.int (xs (x4 + 1).toNatClampNeg), .int (xs (x4 + 2).toNatClampNeg)]) (rest := [.int k]) xtL fx (cxt_pre hw) (c_R_label xtL h _) cw_law_117 (rcR_0 (cxt_pre hw)) rfl ⟨Nat.le_of_ble_eq_true rfl, Nat.le_of_ble_eq_true rfl⟩ hl.1 (Nat.le_of_ble_eq_true rfl) d_law_856 ⟨by show _ ≤ 601024; omega, by show _ ≤ 7293034; omega⟩) (fun _ _ h => h) (fun b9 τ1 H locs hw h => ?_)
  refine W.eq (g2 := F0 m 859 ls [.int b9, .int k]) rfl ?_
  refine lv_icmp_eq (pc := 859) (tgt := 945) hx hb d_law_859 (by decide) (fun c9 => ?_) (fun c9 => absurd h.1 c9)
  have hw := cx_rot hw
  exact W.widen (k := cells + 2) (n := slots + 12) (by omega) (by omega) (kk h.2 hw (lv_sub hl [0, 1, 2, 3, 4] rfl))
set_option maxHeartbeats 4000000 in
set_option maxRecDepth 100000 in
theorem lop_16 (hfl : l.flags = flags0) (fx : CallFix p m c code 7 s #[Value.ref b] GW "NovaDeskLaw") (hX : va_X b L xs s s.heap) (hbl : b < s.heap.size) (PT : PT_tell Rel0 Rel) (hin : vp_in (x4 + 1) L ∧ vp_in (x4 + 2) L ∧ vp_in (x4 + 3) L ∧ vp_in (x4 + 4) L ∧ vp_in (x4 + 5) L) (hc : cells + 2 ≤ 601024 ∧ slots + 12 ≤ 7293034) (kk : LK p l e s m b below meth c Q D cA a r9 ad o Rel x4 (cells + 2) (slots + 12)) (hR : Rel0 σ τ) (hw : CX D vcl (tyl cA) (wR cA r9 τ ++ ([oc cA o g] ++ wC cA a σ)) (XL ad) (LA s) s H locs) (hl : lv_has ls 7 (LLV a r9 o b x4)) : W p l e room_1 s m #[Value.ref b] below meth c H locs cells slots Q (F0 m 864 ls []) := by
  have hx := fx.1
  have hb := fx.2.1
  have hl : lv_has ls 7 [(4, .int x4), (0, .ref b), (1, .ref (a 0)), (2, .ref (r9 0)), (3, .ref o)] := hl
  refine lv_aload_n (pc := 864) hx hb d_law_864 rfl (lv_at hl 2 rfl) ?_
  refine lv_aload_n (pc := 865) hx hb d_law_865 rfl (lv_at hl 1 rfl) ?_
  refine lv_iload (pc := 866) hx hb d_law_866 (lv_at hl 0 rfl) ?_
  refine lv_iconst (pc := 868) (v := 1) hx hb d_law_868 (by decide) ?_
  refine lv_iadd (pc := 869) hx hb d_law_869 ?_
  refine va_sld (pc := 870) hx hb hX hbl (Nat.not_le.mpr hbl) hw.2.2.2.1 hin.1 d_law_870 ?_
  refine lv_aload_n (pc := 871) hx hb d_law_871 rfl (lv_at hl 4 rfl) ?_
  refine rsIu (pc := 872) (u := wR cA r9 τ) (w0 := [oc cA o g] ++ wC cA a σ) hw (rnW (n := 3) (pc := 872) (As := [.ref (a 0), .int (xs (x4 + 1).toNatClampNeg), .ref o]) fx (hl_tell hfl (Φ := fun k g9 u => f_R_tell (fun b9 v => lawT Rel k (g9 0) u b9 v) τ (xs (x4 + 1).toNatClampNeg)) (PT σ τ g (xs (x4 + 1).toNatClampNeg) hR) _) (pw_blind xtL) (fun U hU hW => ⟨rfl, cx_pre xtL (cxt_pre hw) hU hW⟩) kw_989 kw_990 kw_0 kw_991 (by decide +kernel) rfl ⟨Nat.le_of_ble_eq_true rfl, Nat.le_of_ble_eq_true rfl⟩ hl.1 (Nat.le_of_ble_eq_true rfl) d_law_872 ⟨by show cells + 1 ≤ 601024; omega, by show slots + 6 ≤ 7293034; omega⟩) (fun _ _ h => h) (fun k q H locs hw h => ?_)
  refine W.eq (g2 := F0 m 875 ls [.int k]) rfl ?_
  refine lv_istore (pc := 875) (lv' := [(5, .int k), (4, .int x4), (0, .ref b), (1, .ref (a 0)), (2, .ref (r9 0)), (3, .ref o)]) hx hb d_law_875 hl (by decide) rfl (fun ls hl => ?_)
  refine lv_aload_n (pc := 877) hx hb d_law_877 rfl (lv_at hl 4 rfl) ?_
  refine lv_aload_n (pc := 878) hx hb d_law_878 rfl (lv_at hl 2 rfl) ?_
  refine lv_iload (pc := 879) hx hb d_law_879 (lv_at hl 1 rfl) ?_
  refine lv_iconst (pc := 881) (v := 1) hx hb d_law_881 (by decide) ?_
  refine lv_iadd (pc := 882) hx hb d_law_882 ?_
  refine va_sld (pc := 883) hx hb hX hbl (Nat.not_le.mpr hbl) hw.2.2.2.1 hin.1 d_law_883 ?_
  have hw := cx_rot hw
  refine rsIu (pc := 884) (u := [oc cA o q.1] ++ wC cA a q.2) (w0 := wR cA r9 τ) (wf := wR cA r9) hw (rnV (pc := 884) (As := [.int (xs (x4 + 1).toNatClampNeg)]) (rest := []) xtL fx (cxt_pre hw) (c_R_tell xtL h _) cw_law_120 (rcR_0 (cxt_pre hw)) rfl ⟨Nat.le_of_ble_eq_true rfl, Nat.le_of_ble_eq_true rfl⟩ hl.1 (Nat.le_of_ble_eq_true rfl) d_law_884 ⟨by show _ ≤ 601024; omega, by show _ ≤ 7293034; omega⟩) (fun _ _ h => h) (fun b9 τ1 H locs hw h => ?_)
  refine W.eq (g2 := F0 m 887 ls [.int b9]) rfl ?_
  refine lv_istore (pc := 887) (lv' := [(6, .int b9), (5, .int k), (4, .int x4), (0, .ref b), (1, .ref (a 0)), (2, .ref (r9 0)), (3, .ref o)]) hx hb d_law_887 hl (by decide) rfl (fun ls hl => ?_)
  refine lv_aload_n (pc := 889) hx hb d_law_889 rfl (lv_at hl 5 rfl) ?_
  refine rsIu (pc := 890) (u := [oc cA o q.1] ++ wC cA a q.2) (w0 := wR cA r9 τ1) (wf := wR cA r9) hw (rnV (pc := 890) (As := []) (rest := []) xtL fx (cxt_pre hw) (c_R_thrown xtL h _) cw_law_60 (rcR_0 (cxt_pre hw)) rfl ⟨Nat.le_of_ble_eq_true rfl, Nat.le_of_ble_eq_true rfl⟩ hl.1 (Nat.le_of_ble_eq_true rfl) d_law_890 ⟨by show _ ≤ 601024; omega, by show _ ≤ 7293034; omega⟩) (fun _ _ h => h) (fun t9 τ2 H locs hw h => ?_)
  refine W.eq (g2 := F0 m 893 ls [.int t9]) rfl ?_
  refine lv_iload (pc := 893) hx hb d_law_893 (lv_at hl 1 rfl) ?_
  refine lv_icmp_eq (pc := 895) (tgt := 900) hx hb d_law_895 (by decide) (fun c9 => ?_) (fun c9 => absurd h.1 c9)
  refine lv_iload (pc := 900) hx hb d_law_900 (lv_at hl 1 rfl) ?_
  have hw := cx_rot hw
  refine lv_if_ne (pc := 902) (tgt := 917) hx hb d_law_902 (by decide) (fun c9 => ?_) (fun c9 => ?_)
  · refine lv_goto (pc := 917) (tgt := 945) hx hb d_law_917 (by decide) ?_
    exact W.widen (k := cells + 2) (n := slots + 12) (by omega) (by omega) (kk h.2.2 hw (lv_sub hl [2, 3, 4, 5, 6] rfl))
  · refine lv_aload_n (pc := 905) hx hb d_law_905 rfl (lv_at hl 6 rfl) ?_
    refine lv_iconst (pc := 906) (v := 0) hx hb d_law_906 (by decide) ?_
    refine va_lald (pc := 907) fx.1 fx.2.1 hw.1 hw.2.1 19 1 rfl rfl (by unfold vp_in; decide) d_law_907 ?_
    refine lv_iload (pc := 908) hx hb d_law_908 (lv_at hl 0 rfl) ?_
    refine lv_i2l (pc := 910) hx hb d_law_910 rfl ?_
    refine W.lcmp (pc := 911) hx hb d_law_911 ?_
    refine lv_if_eq (pc := 912) (tgt := 917) hx hb d_law_912 (by decide) (fun c8 => ?_) (fun c8 => absurd ((lg_cmp_eq _ _).mpr (h.2.1 c9)) c8)
    refine lv_goto (pc := 917) (tgt := 945) hx hb d_law_917 (by decide) ?_
    exact W.widen (k := cells + 2) (n := slots + 12) (by omega) (by omega) (kk h.2.2 hw (lv_sub hl [2, 3, 4, 5, 6] rfl))
set_option maxHeartbeats 4000000 in
set_option maxRecDepth 100000 in
theorem lop_17 (hfl : l.flags = flags0) (fx : CallFix p m c code 7 s #[Value.ref b] GW "NovaDeskLaw") (hX : va_X b L xs s s.heap) (hbl : b < s.heap.size) (PT : PT_told Rel0 Rel) (hin : vp_in (x4 + 1) L ∧ vp_in (x4 + 2) L ∧ vp_in (x4 + 3) L ∧ vp_in (x4 + 4) L ∧ vp_in (x4 + 5) L) (hc : cells + 2 ≤ 601024 ∧ slots + 12 ≤ 7293034) (kk : LK p l e s m b below meth c Q D cA a r9 ad o Rel x4 (cells + 2) (slots + 12)) (hR : Rel0 σ τ) (hw : CX D vcl (tyl cA) (wR cA r9 τ ++ ([oc cA o g] ++ wC cA a σ)) (XL ad) (LA s) s H locs) (hl : lv_has ls 7 (LLV a r9 o b x4)) : W p l e room_1 s m #[Value.ref b] below meth c H locs cells slots Q (F0 m 920 ls []) := by
  have hx := fx.1
  have hb := fx.2.1
  have hl : lv_has ls 7 [(4, .int x4), (0, .ref b), (1, .ref (a 0)), (2, .ref (r9 0)), (3, .ref o)] := hl
  refine lv_aload_n (pc := 920) hx hb d_law_920 rfl (lv_at hl 2 rfl) ?_
  refine lv_aload_n (pc := 921) hx hb d_law_921 rfl (lv_at hl 1 rfl) ?_
  refine lv_iload (pc := 922) hx hb d_law_922 (lv_at hl 0 rfl) ?_
  refine lv_iconst (pc := 924) (v := 1) hx hb d_law_924 (by decide) ?_
  refine lv_iadd (pc := 925) hx hb d_law_925 ?_
  refine va_sld (pc := 926) hx hb hX hbl (Nat.not_le.mpr hbl) hw.2.2.2.1 hin.1 d_law_926 ?_
  have hw : CX D vcl (tyl cA) ((wR cA r9 τ ++ [oc cA o g]) ++ wC cA a σ) (XL ad) (LA s) s H locs := cx_e (List.append_assoc _ _ _).symm hw
  have h := PT σ τ (xs (x4 + 1).toNatClampNeg) hR
  refine rsIu (pc := 927) (u := wR cA r9 τ ++ [oc cA o g]) (w0 := wC cA a σ) (wf := wC cA a) hw (rnV (pc := 927) (As := [.int (xs (x4 + 1).toNatClampNeg)]) (rest := []) xtC fx (cx_w xl_c (cxt_pre hw)) (c_N_told h _) cw_law_121 (rcC_0 (cx_w xl_c (cxt_pre hw))) rfl ⟨Nat.le_of_ble_eq_true rfl, Nat.le_of_ble_eq_true rfl⟩ hl.1 (Nat.le_of_ble_eq_true rfl) d_law_927 ⟨by show _ ≤ 601024; omega, by show _ ≤ 7293034; omega⟩) (fun _ _ h => h) (fun k u H locs hw h => ?_)
  refine W.eq (g2 := F0 m 930 ls [.int k]) rfl ?_
  have hw : CX D vcl (tyl cA) (wR cA r9 τ ++ ([oc cA o g] ++ wC cA a u)) (XL ad) (LA s) s H locs := cx_e (List.append_assoc _ _ _) hw
  refine lv_aload_n (pc := 930) hx hb d_law_930 rfl (lv_at hl 3 rfl) ?_
  refine lv_aload_n (pc := 931) hx hb d_law_931 rfl (lv_at hl 1 rfl) ?_
  refine lv_iload (pc := 932) hx hb d_law_932 (lv_at hl 0 rfl) ?_
  refine lv_iconst (pc := 934) (v := 1) hx hb d_law_934 (by decide) ?_
  refine lv_iadd (pc := 935) hx hb d_law_935 ?_
  refine va_sld (pc := 936) hx hb hX hbl (Nat.not_le.mpr hbl) hw.2.2.2.1 hin.1 d_law_936 ?_
  have hw := cx_rot hw
  refine rsIu (pc := 937) (u := [oc cA o g] ++ wC cA a u) (w0 := wR cA r9 τ) (wf := wR cA r9) hw (rnV (pc := 937) (As := [.int (xs (x4 + 1).toNatClampNeg)]) (rest := [.int k]) xtL fx (cxt_pre hw) (c_R_told xtL h _) cw_law_124 (rcR_0 (cxt_pre hw)) rfl ⟨Nat.le_of_ble_eq_true rfl, Nat.le_of_ble_eq_true rfl⟩ hl.1 (Nat.le_of_ble_eq_true rfl) d_law_937 ⟨by show _ ≤ 601024; omega, by show _ ≤ 7293034; omega⟩) (fun _ _ h => h) (fun b9 τ1 H locs hw h => ?_)
  refine W.eq (g2 := F0 m 940 ls [.int b9, .int k]) rfl ?_
  refine lv_icmp_eq (pc := 940) (tgt := 945) hx hb d_law_940 (by decide) (fun c9 => ?_) (fun c9 => absurd h.1 c9)
  have hw := cx_rot hw
  exact W.widen (k := cells + 2) (n := slots + 12) (by omega) (by omega) (kk h.2 hw (lv_sub hl [0, 1, 2, 3, 4] rfl))
end LawOps
theorem law_sub {L : Nat} (h : 6 ≤ L) : Int32.ofNat L - 6 = nI (L - 6) := by
  have e : nI L = nI (L - 6) + nI 6 := by rw [nI_add]; congr 1; omega
  show nI L - nI 6 = _
  rw [e, Int32.add_sub_cancel]
section LawOut
variable {p : Program} {l : Launch} {e : Env} {s : State} {m : MethodId} {below : List Frame} {meth : Method} {c : Code} {Q : State → Prop} {D : va_G} {cA : Nat → ClassId} {a r9 : Nat → Nat} {ad : Nat → Nat → Nat} {o b L : Nat} {xs : Nat → Int32} {Rel0 Rel : SS → SS → Prop} {σ τ : SS} {g : Nat → Int64} {x4 : Int32} {H : Heap} {locs : List Loc} {ls : Array Slot} {cells slots : Nat}
set_option maxHeartbeats 4000000 in
set_option maxRecDepth 100000 in
theorem law_out {j : Nat} (fx : CallFix p m c code 7 s #[Value.ref b] GW "NovaDeskLaw") (hr : meth.sig.returnType = ret) (hlocks : meth.locks = false) (hX : va_X b L xs s s.heap) (hbl : b < s.heap.size) (hL : L ≤ 3072) (h1 : L < 6 * j + 6) (h2 : 6 * j ≤ L) (hw : CX D vcl (tyl cA) (wR cA r9 τ ++ ([oc cA o g] ++ wC cA a σ)) (XL ad) (LA s) s H locs) (hl : lv_has ls 7 (LLV a r9 o b (nI (6 * j)))) : W p l e room_1 s m #[Value.ref b] below meth c H locs (100 + 2 * j) (200000 + 12 * j) (lw_Z below #[Value.ref b] s) (F0 m 23 ls []) := by
  have hx := fx.1
  have hb := fx.2.1
  have hl : lv_has ls 7 [(4, .int (nI (6 * j))), (0, .ref b), (1, .ref (a 0)), (2, .ref (r9 0)), (3, .ref o)] := hl
  refine lv_iload (pc := 23) hx hb d_law_23 (lv_at hl 0 rfl) ?_
  refine lv_aload_n (pc := 25) hx hb d_law_25 rfl (lv_at hl 1 rfl) ?_
  refine va_slen (pc := 26) hx hb hX hbl (Nat.not_le.mpr hbl) hw.2.2.2.1 d_law_26 ?_
  refine lv_bipush (pc := 27) (v := 6) hx hb d_law_27 (by decide) ?_
  refine lv_isub (pc := 29) hx hb d_law_29 ?_
  refine lv_icmp_gt (pc := 30) (tgt := 951) hx hb d_law_30 (by decide) (fun _ => ?_) (fun c9 => absurd ?_ c9)
  · refine lv_iconst (pc := 951) (v := 1) hx hb d_law_951 (by decide) ?_
    refine va_forget (fun q hq => hw.2.2.2.1.2.2 q hq) ?_
    refine W.widen (k := 601024) (n := 7293034) (by omega) (by omega) ?_
    exact lw_ret hx hb hr hlocks d_law_952
  · rw [Int32.lt_iff_toInt_lt, nI_toInt (by omega)]
    have e : (Int32.ofNat L - 6).toInt = (L : Int) - 6 := by
      rw [Int32.toInt_sub, show (Int32.ofNat L).toInt = (L : Int) from nI_toInt (by omega)]
      show ((L : Int) - 6).bmod (2 ^ 32) = _
      exact Int.bmod_eq_of_le (by omega) (by omega)
    rw [e]
    omega
end LawOut
