/-! the law: its loop, by program -/
section LawLoop
variable {p : Program} {l : Launch} {e : Env} {s : State} {m : MethodId} {below : List Frame} {meth : Method} {c : Code} {Q : State → Prop} {D : va_G} {cA : Nat → ClassId} {a r9 : Nat → Nat} {ad : Nat → Nat → Nat} {o b L : Nat} {xs : Nat → Int32} {Rel0 Rel : SS → SS → Prop} {σ τ : SS} {g : Nat → Int64} {x4 : Int32} {H : Heap} {locs : List Loc} {ls : Array Slot} {cells slots : Nat}
theorem law_in {j i : Nat} (h : j + i < L) (hL : L ≤ 3072) : vp_in (nI j + nI i) L := by
  rw [nI_add]; exact vp_in_nI h (by omega)
theorem law_loop (hfl : l.flags = flags0) (fx : CallFix p m c code 7 s #[Value.ref b] GW "NovaDeskLaw") (hr : meth.sig.returnType = ret) (hlocks : meth.locks = false) (hX : va_X b L xs s s.heap) (hbl : b < s.heap.size) (hL : L ≤ 3072) {RelJ : Nat → SS → SS → Prop} (PTJ : ∀ j, j < 512 → PT_all (RelJ j) (RelJ (j + 1))) (mono : ∀ j σ τ, RelJ j σ τ → RelJ (j + 1) σ τ) : ∀ (n j : Nat), L < 6 * j + 6 * n + 6 → 6 * j ≤ L → ∀ {σ τ : SS} {g : Nat → Int64} {H : Heap} {locs : List Loc} {ls : Array Slot}, RelJ j σ τ → CX D vcl (tyl cA) (wR cA r9 τ ++ ([oc cA o g] ++ wC cA a σ)) (XL ad) (LA s) s H locs → lv_has ls 7 (LLV a r9 o b (nI (6 * j))) → W p l e room_1 s m #[Value.ref b] below meth c H locs (100 + 2 * j) (200000 + 12 * j) (lw_Z below #[Value.ref b] s) (F0 m 23 ls []) := by
  intro n
  induction n with
  | zero =>
    intro j h1 h2 σ τ g H locs ls hR hw hl
    have hx := fx.1
    have hb := fx.2.1
    have hl : lv_has ls 7 [(4, .int (nI (6 * j))), (0, .ref b), (1, .ref (a 0)), (2, .ref (r9 0)), (3, .ref o)] := hl
    exact law_out fx hr hlocks hX hbl hL h1 h2 hw hl
  | succ n ih =>
    intro j h1 h2 σ τ g H locs ls hR hw hl
    have hx := fx.1
    have hb := fx.2.1
    by_cases hj : L < 6 * j + 6
    · exact law_out fx hr hlocks hX hbl hL hj h2 hw hl
    have hl : lv_has ls 7 [(4, .int (nI (6 * j))), (0, .ref b), (1, .ref (a 0)), (2, .ref (r9 0)), (3, .ref o)] := hl
    have kk : LK p l e s m b below meth c (lw_Z below #[Value.ref b] s) D cA a r9 ad o (RelJ (j + 1)) (nI (6 * j)) (100 + 2 * (j + 1)) (200000 + 12 * (j + 1)) := by
      intro σ τ g H locs ls hR hw hl
      have hl : lv_has ls 7 [(4, .int (nI (6 * j))), (0, .ref b), (1, .ref (a 0)), (2, .ref (r9 0)), (3, .ref o)] := hl
      refine lv_iinc (pc := 945) (v := nI (6 * (j + 1))) (lv' := [(4, .int (nI (6 * (j + 1)))), (0, .ref b), (1, .ref (a 0)), (2, .ref (r9 0)), (3, .ref o)]) hx hb d_law_945 hl (k := 0) rfl (by show nI (6 * j) + nI 6 = _; rw [nI_add]; rfl) (by decide) rfl (fun ls hl => ?_)
      refine lv_goto (pc := 948) (tgt := 23) hx hb d_law_948 (by decide) ?_
      exact ih (j + 1) (by omega) (by omega) hR hw hl
    have PT := PTJ j (by omega)
    have hin : vp_in (nI (6 * j) + 1) L ∧ vp_in (nI (6 * j) + 2) L ∧ vp_in (nI (6 * j) + 3) L ∧ vp_in (nI (6 * j) + 4) L ∧ vp_in (nI (6 * j) + 5) L := ⟨law_in (i := 1) (by omega) hL, law_in (i := 2) (by omega) hL, law_in (i := 3) (by omega) hL, law_in (i := 4) (by omega) hL, law_in (i := 5) (by omega) hL⟩
    have hc : 100 + 2 * j + 2 ≤ 601024 ∧ 200000 + 12 * j + 12 ≤ 7293034 := by omega
    refine lv_iload (pc := 23) hx hb d_law_23 (lv_at hl 0 rfl) ?_
    refine lv_aload_n (pc := 25) hx hb d_law_25 rfl (lv_at hl 1 rfl) ?_
    refine va_slen (pc := 26) hx hb hX hbl (Nat.not_le.mpr hbl) hw.2.2.2.1 d_law_26 ?_
    refine lv_bipush (pc := 27) (v := 6) hx hb d_law_27 (by decide) ?_
    refine lv_isub (pc := 29) hx hb d_law_29 ?_
    refine lv_icmp_gt (pc := 30) (tgt := 951) hx hb d_law_30 (by decide) (fun c9 => absurd c9 ?_) (fun _ => ?_)
    · have e : Int32.ofNat L - 6 = nI (L - 6) := law_sub (by omega)
      rw [e]
      exact nI_nlt (by omega) (by omega)
    refine lv_aload_n (pc := 33) hx hb d_law_33 rfl (lv_at hl 1 rfl) ?_
    refine lv_iload (pc := 34) hx hb d_law_34 (lv_at hl 0 rfl) ?_
    refine va_sld (pc := 36) hx hb hX hbl (Nat.not_le.mpr hbl) hw.2.2.2.1 (vp_in_nI (by omega) (by omega)) d_law_36 ?_
    refine lv_bipush (pc := 37) (v := 31) hx hb d_law_37 (by decide) ?_
    refine lv_iand (pc := 39) hx hb d_law_39 ?_
    refine lv_topi (fun v9 _ => ?_)
    by_cases c0 : v9 = (0 : Int32)
    · refine lv_tableIn (pc := 40) (off := 88) (tgt := 128) hx hb d_law_40 (by rw [c0]; decide) (by rw [c0]; decide) (by rw [c0]; rfl) (by decide) ?_
      exact lop_0 hfl fx hX hbl (PT.1) hin hc kk hR hw hl
    by_cases c1 : v9 = (1 : Int32)
    · refine lv_tableIn (pc := 40) (off := 156) (tgt := 196) hx hb d_law_40 (by rw [c1]; decide) (by rw [c1]; decide) (by rw [c1]; rfl) (by decide) ?_
      exact lop_1 hfl fx hX hbl (PT.2.1) hin hc kk hR hw hl
    by_cases c2 : v9 = (2 : Int32)
    · refine lv_tableIn (pc := 40) (off := 212) (tgt := 252) hx hb d_law_40 (by rw [c2]; decide) (by rw [c2]; decide) (by rw [c2]; rfl) (by decide) ?_
      exact lop_2 hfl fx hX hbl (PT.2.2.1) hin hc kk hR hw hl
    by_cases c3 : v9 = (3 : Int32)
    · refine lv_tableIn (pc := 40) (off := 280) (tgt := 320) hx hb d_law_40 (by rw [c3]; decide) (by rw [c3]; decide) (by rw [c3]; rfl) (by decide) ?_
      exact lop_3 hfl fx hX hbl (PT.2.2.2.1) hin hc kk hR hw hl
    by_cases c4 : v9 = (4 : Int32)
    · refine lv_tableIn (pc := 40) (off := 336) (tgt := 376) hx hb d_law_40 (by rw [c4]; decide) (by rw [c4]; decide) (by rw [c4]; rfl) (by decide) ?_
      exact lop_4 hfl fx hX hbl (PT.2.2.2.2.1) hin hc kk hR hw hl
    by_cases c5 : v9 = (5 : Int32)
    · refine lv_tableIn (pc := 40) (off := 404) (tgt := 444) hx hb d_law_40 (by rw [c5]; decide) (by rw [c5]; decide) (by rw [c5]; rfl) (by decide) ?_
      exact lop_5 hfl fx hX hbl (PT.2.2.2.2.2.1) hin hc kk hR hw hl
    by_cases c6 : v9 = (6 : Int32)
    · refine lv_tableIn (pc := 40) (off := 460) (tgt := 500) hx hb d_law_40 (by rw [c6]; decide) (by rw [c6]; decide) (by rw [c6]; rfl) (by decide) ?_
      exact lop_6 hfl fx hX hbl (PT.2.2.2.2.2.2.1) hin hc kk hR hw hl
    by_cases c7 : v9 = (7 : Int32)
    · refine lv_tableIn (pc := 40) (off := 516) (tgt := 556) hx hb d_law_40 (by rw [c7]; decide) (by rw [c7]; decide) (by rw [c7]; rfl) (by decide) ?_
      exact lop_7 hfl fx hX hbl (PT.2.2.2.2.2.2.2.1) hin hc kk hR hw hl
    by_cases c8 : v9 = (8 : Int32)
    · refine lv_tableIn (pc := 40) (off := 529) (tgt := 569) hx hb d_law_40 (by rw [c8]; decide) (by rw [c8]; decide) (by rw [c8]; rfl) (by decide) ?_
      exact lop_8 hfl fx hX hbl (PT.2.2.2.2.2.2.2.2.1) hin hc kk hR hw hl
    by_cases c9 : v9 = (9 : Int32)
    · refine lv_tableIn (pc := 40) (off := 554) (tgt := 594) hx hb d_law_40 (by rw [c9]; decide) (by rw [c9]; decide) (by rw [c9]; rfl) (by decide) ?_
      exact lop_9 hfl fx hX hbl (PT.2.2.2.2.2.2.2.2.2.1) hin hc kk hR hw hl
    by_cases c10 : v9 = (10 : Int32)
    · refine lv_tableIn (pc := 40) (off := 567) (tgt := 607) hx hb d_law_40 (by rw [c10]; decide) (by rw [c10]; decide) (by rw [c10]; rfl) (by decide) ?_
      exact lop_10 hfl fx hX hbl (PT.2.2.2.2.2.2.2.2.2.2.1) hin hc kk hR hw hl
    by_cases c11 : v9 = (11 : Int32)
    · refine lv_tableIn (pc := 40) (off := 578) (tgt := 618) hx hb d_law_40 (by rw [c11]; decide) (by rw [c11]; decide) (by rw [c11]; rfl) (by decide) ?_
      exact lop_11 hfl fx hX hbl (PT.2.2.2.2.2.2.2.2.2.2.2.1) hin hc kk hR hw hl
    by_cases c12 : v9 = (12 : Int32)
    · refine lv_tableIn (pc := 40) (off := 682) (tgt := 722) hx hb d_law_40 (by rw [c12]; decide) (by rw [c12]; decide) (by rw [c12]; rfl) (by decide) ?_
      exact lop_12 hfl fx hX hbl (PT.2.2.2.2.2.2.2.2.2.2.2.2.1) hin hc kk hR hw hl
    by_cases c13 : v9 = (13 : Int32)
    · refine lv_tableIn (pc := 40) (off := 718) (tgt := 758) hx hb d_law_40 (by rw [c13]; decide) (by rw [c13]; decide) (by rw [c13]; rfl) (by decide) ?_
      exact lop_13 hfl fx hX hbl (PT.2.2.2.2.2.2.2.2.2.2.2.2.2.1) hin hc kk hR hw hl
    by_cases c14 : v9 = (14 : Int32)
    · refine lv_tableIn (pc := 40) (off := 731) (tgt := 771) hx hb d_law_40 (by rw [c14]; decide) (by rw [c14]; decide) (by rw [c14]; rfl) (by decide) ?_
      exact lop_14 hfl fx hX hbl (PT.2.2.2.2.2.2.2.2.2.2.2.2.2.2.1) hin hc kk hR hw hl
    by_cases c15 : v9 = (15 : Int32)
    · refine lv_tableIn (pc := 40) (off := 787) (tgt := 827) hx hb d_law_40 (by rw [c15]; decide) (by rw [c15]; decide) (by rw [c15]; rfl) (by decide) ?_
      exact lop_15 hfl fx hX hbl (PT.2.2.2.2.2.2.2.2.2.2.2.2.2.2.2.1) hin hc kk hR hw hl
    by_cases c16 : v9 = (16 : Int32)
    · refine lv_tableIn (pc := 40) (off := 824) (tgt := 864) hx hb d_law_40 (by rw [c16]; decide) (by rw [c16]; decide) (by rw [c16]; rfl) (by decide) ?_
      exact lop_16 hfl fx hX hbl (PT.2.2.2.2.2.2.2.2.2.2.2.2.2.2.2.2.1) hin hc kk hR hw hl
    by_cases c17 : v9 = (17 : Int32)
    · refine lv_tableIn (pc := 40) (off := 880) (tgt := 920) hx hb d_law_40 (by rw [c17]; decide) (by rw [c17]; decide) (by rw [c17]; rfl) (by decide) ?_
      exact lop_17 hfl fx hX hbl (PT.2.2.2.2.2.2.2.2.2.2.2.2.2.2.2.2.2) hin hc kk hR hw hl
    refine lv_tableOut (pc := 40) (tgt := 945) hx hb d_law_40 (by have := lv_neT c0 (a := 0) (by decide); have := lv_neT c1 (a := 1) (by decide); have := lv_neT c2 (a := 2) (by decide); have := lv_neT c3 (a := 3) (by decide); have := lv_neT c4 (a := 4) (by decide); have := lv_neT c5 (a := 5) (by decide); have := lv_neT c6 (a := 6) (by decide); have := lv_neT c7 (a := 7) (by decide); have := lv_neT c8 (a := 8) (by decide); have := lv_neT c9 (a := 9) (by decide); have := lv_neT c10 (a := 10) (by decide); have := lv_neT c11 (a := 11) (by decide); have := lv_neT c12 (a := 12) (by decide); have := lv_neT c13 (a := 13) (by decide); have := lv_neT c14 (a := 14) (by decide); have := lv_neT c15 (a := 15) (by decide); have := lv_neT c16 (a := 16) (by decide); have := lv_neT c17 (a := 17) (by decide); omega) (by decide) ?_
    exact W.widen (k := 100 + 2 * (j + 1)) (n := 200000 + 12 * (j + 1)) (by omega) (by omega) (kk (mono _ _ _ hR) hw hl)
end LawLoop
