/-! the pure side: writing of words -/
theorem u16_e {x : Nat} (h : x < 65536) : ((nI x).toUInt32 % 65536).toInt32 = nI x := by
  have e0 : (UInt32.ofNat x).toNat = x := Nat.mod_eq_of_lt (by omega)
  have e1 : (nI x).toUInt32 % 65536 = UInt32.ofNat x := by
    apply UInt32.toNat_inj.1
    rw [UInt32.toNat_mod]
    show (UInt32.ofNat x).toNat % 65536 = (UInt32.ofNat x).toNat
    rw [e0]
    omega
  rw [e1]
  rfl
theorem nar_c2 {x : Nat} (h : x < 65536) : vp_nar .char (nI x) = nI x := by
  have := nar_c h
  rwa [u16_e h] at this
def CW (σ0 : SS) (l : List Nat) (u : SS) : Prop := ∃ f : Nat → Int32, u = sI (setM σ0 24 f) 39 (nI l.length) ∧ ∀ i, i < l.length → f i = nI (l.getD i 0)
def RW (σ0 : SS) (l : List Nat) (u : SS) : Prop := ∃ f : Nat → Int32, u = sI (setM σ0 18 f) 28 (nI l.length) ∧ ∀ i, i < l.length → f i = nI (l.getD i 0)
theorem getD_app {l : List Nat} {c i : Nat} (h : i < (l ++ [c]).length) : (l ++ [c]).getD i 0 = if i = l.length then c else l.getD i 0 := by
  rw [List.length_append] at h
  simp only [List.length_cons, List.length_nil] at h
  by_cases e : i = l.length
  · subst e; simp
  · rw [if_neg e]
    simp [List.getD, List.getElem?_append_left (show i < l.length by omega)]
theorem cw_write {σ0 u : SS} {l : List Nat} {c : Nat} {post : SS → Prop} (h : CW σ0 l u) (hl : l.length < 32) (hc : c < 65536) (k : ∀ u', CW σ0 (l ++ [c]) u' → post u') : f_T_write post u (nI c) := by
  obtain ⟨f, rfl, hf⟩ := h
  simp (disch := omega) only [f_T_write, nm, q_lit, q_add, q_sub, q_subN, q_n1, q_mul, q_div, q_nm, q_and, q_or, q_xor, q_shr, q_shl, q_cl, q_a1, q_a3, q_a7, q_a31, q_a63, q_a255, q_a15, q_a16, q_a17, q_a2, q_a4, q_a8, q_a1024, q_a65536, Nat.reduceMod, Nat.reducePow, Nat.reduceDiv, Nat.reduceMul, Nat.reduceAdd, Nat.reduceSub, Nat.reduceEqDiff, q_ltT, q_ltF, q_leT, q_leF, q_eqT, q_eqF, q_inT, q_bz0, q_bz1, b_T, b_F, true_and, and_true, if_true, if_false, sI_1, sA_1, if_true, nar_c2 hc]
  refine k _ ⟨upd f l.length (nI c), ?_, fun i hi => ?_⟩
  · rw [sA_M]
    show sI (setM (sI (setM σ0 24 f) 39 (nI l.length)) 24 (upd f l.length (nI c))) 39 (nI (l.length + 1)) = _
    rw [setM_sI, setM_M, sI_sI, List.length_append]
    rfl
  · rw [u_at, getD_app hi]
    by_cases e : i = l.length
    · rw [if_pos e, if_pos e]
    · rw [if_neg e, if_neg e]
      refine hf i ?_
      rw [List.length_append] at hi
      simp only [List.length_cons, List.length_nil] at hi
      omega
theorem rw_say {σ0 u : SS} {l : List Nat} {c : Nat} {post : SS → Prop} (h : RW σ0 l u) (hl : l.length < 40) (k : ∀ u', RW σ0 (l ++ [c]) u' → post u') : f_R_say post u (nI c) := by
  obtain ⟨f, rfl, hf⟩ := h
  simp (disch := omega) only [f_R_say, nm, q_lit, q_add, q_sub, q_subN, q_n1, q_mul, q_div, q_nm, q_and, q_or, q_xor, q_shr, q_shl, q_cl, q_a1, q_a3, q_a7, q_a31, q_a63, q_a255, q_a15, q_a16, q_a17, q_a2, q_a4, q_a8, q_a1024, q_a65536, Nat.reduceMod, Nat.reducePow, Nat.reduceDiv, Nat.reduceMul, Nat.reduceAdd, Nat.reduceSub, Nat.reduceEqDiff, q_ltT, q_ltF, q_leT, q_leF, q_eqT, q_eqF, q_inT, q_bz0, q_bz1, b_T, b_F, true_and, and_true, if_true, if_false, sI_1, sA_1, if_true]
  refine k _ ⟨upd f l.length (nI c), ?_, fun i hi => ?_⟩
  · rw [sA_M]
    show sI (setM (sI (setM σ0 18 f) 28 (nI l.length)) 18 (upd f l.length (nI c))) 28 (nI (l.length + 1)) = _
    rw [setM_sI, setM_M, sI_sI, List.length_append]
    rfl
  · rw [u_at, getD_app hi]
    by_cases e : i = l.length
    · rw [if_pos e, if_pos e]
    · rw [if_neg e, if_neg e]
      refine hf i ?_
      rw [List.length_append] at hi
      simp only [List.length_cons, List.length_nil] at hi
      omega
theorem m3_e {s : Nat} (h : 3 ≤ s) : nI s + -nI 3 = nI (s - 3) := by
  rw [← q_sub h, Int32.sub_eq_add_neg]
theorem wn_skip {post : SS → Prop} {u : SS} {v s n : Nat} (h1 : 3 ≤ s) (h2 : s < 32) (hv : v < 65536) (h3 : v / 2 ^ s = 0) (h : f_T_writeNumber_3 post n u (nI v) (nI (s - 3))) : f_T_writeNumber_3 post (n + 1) u (nI v) (nI s) := by
  rw [f_T_writeNumber_3]
  simp (disch := omega) only [f_T_writeNumber_31, nm, q_lit, q_add, q_sub, q_subN, q_n1, q_mul, q_div, q_nm, q_and, q_or, q_xor, q_shr, q_shl, q_cl, q_a1, q_a3, q_a7, q_a31, q_a63, q_a255, q_a15, q_a16, q_a17, q_a2, q_a4, q_a8, q_a1024, q_a65536, Nat.reduceMod, Nat.reducePow, Nat.reduceDiv, Nat.reduceMul, Nat.reduceAdd, Nat.reduceSub, Nat.reduceEqDiff, q_ltT, q_ltF, q_leT, q_leF, q_eqT, q_eqF, q_inT, q_bz0, q_bz1, b_T, b_F, true_and, and_true, if_true, if_false, Nat.mod_eq_of_lt h2, h3, m3_e h1]
  exact h
theorem wn_put {σ0 u : SS} {l : List Nat} {post : SS → Prop} {v s n : Nat} (hu : CW σ0 l u) (hl : l.length < 32) (h1 : 3 ≤ s) (h2 : s < 32) (hv : v < 65536) (h3 : v / 2 ^ s ≠ 0) (h : ∀ u', CW σ0 (l ++ [48 + v / 2 ^ s % 8]) u' → f_T_writeNumber_3 post n u' (nI v) (nI (s - 3))) : f_T_writeNumber_3 post (n + 1) u (nI v) (nI s) := by
  have h4 : v / 2 ^ s ≤ v := Nat.div_le_self _ _
  rw [f_T_writeNumber_3]
  simp (disch := omega) only [f_T_writeNumber_17, f_T_writeNumber_31, nm, q_lit, q_add, q_sub, q_subN, q_n1, q_mul, q_div, q_nm, q_and, q_or, q_xor, q_shr, q_shl, q_cl, q_a1, q_a3, q_a7, q_a31, q_a63, q_a255, q_a15, q_a16, q_a17, q_a2, q_a4, q_a8, q_a1024, q_a65536, Nat.reduceMod, Nat.reducePow, Nat.reduceDiv, Nat.reduceMul, Nat.reduceAdd, Nat.reduceSub, Nat.reduceEqDiff, q_ltT, q_ltF, q_leT, q_leF, q_eqT, q_eqF, q_inT, q_bz0, q_bz1, b_T, b_F, true_and, and_true, if_true, if_false, Nat.mod_eq_of_lt h2, u16_e (show 48 + v / 2 ^ s % 8 < 65536 by omega), m3_e h1]
  exact cw_write hu hl (by omega) h
theorem wn_last {σ0 u : SS} {l : List Nat} {post : SS → Prop} {v n : Nat} (hu : CW σ0 l u) (hl : l.length < 32) (hv : v < 65536) (h : ∀ u', CW σ0 (l ++ [48 + v % 8]) u' → post u') : f_T_writeNumber_3 post (n + 2) u (nI v) (nI 0) := by
  rw [f_T_writeNumber_3]
  have e0 : v / 2 ^ 0 = v := by simp
  simp (disch := omega) only [f_T_writeNumber_17, f_T_writeNumber_31, nm, q_lit, q_add, q_sub, q_subN, q_n1, q_mul, q_div, q_nm, q_and, q_or, q_xor, q_shr, q_shl, q_cl, q_a1, q_a3, q_a7, q_a31, q_a63, q_a255, q_a15, q_a16, q_a17, q_a2, q_a4, q_a8, q_a1024, q_a65536, Nat.reduceMod, Nat.reducePow, Nat.reduceDiv, Nat.reduceMul, Nat.reduceAdd, Nat.reduceSub, Nat.reduceEqDiff, q_ltT, q_ltF, q_leT, q_leF, q_eqT, q_eqF, q_inT, q_bz0, q_bz1, b_T, b_F, true_and, and_true, if_true, if_false, Nat.div_one, u16_e (show 48 + v % 8 < 65536 by omega)]
  refine cw_write hu hl (by omega) (fun u' h' => ?_)
  rw [f_T_writeNumber_3]
  exact b_t (show nI 0 + -nI 3 < 0 by decide) (h u' h')
/-- a number to the base 8 -/
def oct (v : Nat) : List Nat := if v < 8 then [48 + v % 8] else if v < 64 then [48 + v / 8 % 8, 48 + v % 8] else if v < 512 then [48 + v / 64 % 8, 48 + v / 8 % 8, 48 + v % 8] else if v < 4096 then [48 + v / 512 % 8, 48 + v / 64 % 8, 48 + v / 8 % 8, 48 + v % 8] else if v < 32768 then [48 + v / 4096 % 8, 48 + v / 512 % 8, 48 + v / 64 % 8, 48 + v / 8 % 8, 48 + v % 8] else [48 + v / 32768 % 8, 48 + v / 4096 % 8, 48 + v / 512 % 8, 48 + v / 64 % 8, 48 + v / 8 % 8, 48 + v % 8]
theorem oct_len (v : Nat) : (oct v).length ≤ 6 := by
  unfold oct
  (repeat' split) <;> simp
theorem ro_say {σ0 u : SS} {l : List Nat} {post : SS → Prop} {v w n : Nat} (hu : RW σ0 l u) (hl : l.length < 40) (hv : v < 65536) (h1 : 0 < w) (h2 : w < 65536) (h : ∀ u', RW σ0 (l ++ [48 + v / w % 8]) u' → f_R_octal_18 post n u' (nI v) (nI (w / 8))) : f_R_octal_18 post (n + 1) u (nI v) (nI w) := by
  have h4 : v / w ≤ v := Nat.div_le_self _ _
  have h5 : v / w / 8 * 8 ≤ v / w := Nat.div_mul_le_self _ _
  rw [f_R_octal_18]
  simp (disch := omega) only [nm, q_lit, q_add, q_sub, q_subN, q_n1, q_mul, q_div, q_nm, q_and, q_or, q_xor, q_shr, q_shl, q_cl, q_a1, q_a3, q_a7, q_a31, q_a63, q_a255, q_a15, q_a16, q_a17, q_a2, q_a4, q_a8, q_a1024, q_a65536, Nat.reduceMod, Nat.reducePow, Nat.reduceDiv, Nat.reduceMul, Nat.reduceAdd, Nat.reduceSub, Nat.reduceEqDiff, q_ltT, q_ltF, q_leT, q_leF, q_eqT, q_eqF, q_inT, q_bz0, q_bz1, b_T, b_F, true_and, and_true, if_true, if_false, not_false_eq_true]
  exact rw_say hu hl h
theorem ro_end {u : SS} {post : SS → Prop} {v n : Nat} (h : post u) : f_R_octal_18 post (n + 1) u (nI v) (nI 0) := by
  rw [f_R_octal_18]
  simp (disch := omega) only [nm, q_lit, q_add, q_sub, q_subN, q_n1, q_mul, q_div, q_nm, q_and, q_or, q_xor, q_shr, q_shl, q_cl, q_a1, q_a3, q_a7, q_a31, q_a63, q_a255, q_a15, q_a16, q_a17, q_a2, q_a4, q_a8, q_a1024, q_a65536, Nat.reduceMod, Nat.reducePow, Nat.reduceDiv, Nat.reduceMul, Nat.reduceAdd, Nat.reduceSub, Nat.reduceEqDiff, q_ltT, q_ltF, q_leT, q_leF, q_eqT, q_eqF, q_inT, q_bz0, q_bz1, b_T, b_F, true_and, and_true, if_true, if_false]
  exact h
theorem ro_up {u : SS} {post : SS → Prop} {v w n : Nat} (hv : v < 65536) (h1 : 0 < w) (h2 : w < 65536) (h3 : 7 < v / w) (h : f_R_octal_2 post n u (nI v) (nI (8 * w))) : f_R_octal_2 post (n + 1) u (nI v) (nI w) := by
  have h4 : v / w ≤ v := Nat.div_le_self _ _
  rw [f_R_octal_2]
  simp (disch := omega) only [nm, q_lit, q_add, q_sub, q_subN, q_n1, q_mul, q_div, q_nm, q_and, q_or, q_xor, q_shr, q_shl, q_cl, q_a1, q_a3, q_a7, q_a31, q_a63, q_a255, q_a15, q_a16, q_a17, q_a2, q_a4, q_a8, q_a1024, q_a65536, Nat.reduceMod, Nat.reducePow, Nat.reduceDiv, Nat.reduceMul, Nat.reduceAdd, Nat.reduceSub, Nat.reduceEqDiff, q_ltT, q_ltF, q_leT, q_leF, q_eqT, q_eqF, q_inT, q_bz0, q_bz1, b_T, b_F, true_and, and_true, if_true, if_false, not_false_eq_true]
  exact h
theorem ro_go {u : SS} {post : SS → Prop} {v w n m : Nat} (hv : v < 65536) (h1 : 0 < w) (h2 : w < 65536) (h3 : v / w ≤ 7) (h : f_R_octal_18 post m u (nI v) (nI w)) : f_R_octal_2 post (n + 1) u (nI v) (nI w) := by
  rw [f_R_octal_2]
  simp (disch := omega) only [nm, q_lit, q_add, q_sub, q_subN, q_n1, q_mul, q_div, q_nm, q_and, q_or, q_xor, q_shr, q_shl, q_cl, q_a1, q_a3, q_a7, q_a31, q_a63, q_a255, q_a15, q_a16, q_a17, q_a2, q_a4, q_a8, q_a1024, q_a65536, Nat.reduceMod, Nat.reducePow, Nat.reduceDiv, Nat.reduceMul, Nat.reduceAdd, Nat.reduceSub, Nat.reduceEqDiff, q_ltT, q_ltF, q_leT, q_leF, q_eqT, q_eqF, q_inT, q_bz0, q_bz1, b_T, b_F, true_and, and_true, if_true, if_false, not_false_eq_true]
  exact ⟨m, h⟩
theorem cw_num {σ0 u : SS} {l : List Nat} {v : Nat} {post : SS → Prop} (hu : CW σ0 l u) (hl : l.length + 6 ≤ 32) (hv : v < 65536) (k : ∀ u', CW σ0 (l ++ oct v) u' → post u') : f_T_writeNumber post u (nI v) := by
  refine ⟨7, ?_⟩
  unfold oct at k
  by_cases c1 : v < 8
  · rw [if_pos c1] at k
    refine wn_skip (s := 15) (by omega) (by omega) hv (by omega) ?_
    refine wn_skip (s := 12) (by omega) (by omega) hv (by omega) ?_
    refine wn_skip (s := 9) (by omega) (by omega) hv (by omega) ?_
    refine wn_skip (s := 6) (by omega) (by omega) hv (by omega) ?_
    refine wn_skip (s := 3) (by omega) (by omega) hv (by omega) ?_
    refine wn_last hu (by (try simp only [List.length_append, List.length_cons, List.length_nil]); omega) hv (fun u1 h1 => k u1 ?_)
    simpa only [List.append_assoc, List.cons_append, List.nil_append, Nat.reducePow] using h1
  by_cases c2 : v < 64
  · rw [if_neg c1, if_pos c2] at k
    refine wn_skip (s := 15) (by omega) (by omega) hv (by omega) ?_
    refine wn_skip (s := 12) (by omega) (by omega) hv (by omega) ?_
    refine wn_skip (s := 9) (by omega) (by omega) hv (by omega) ?_
    refine wn_skip (s := 6) (by omega) (by omega) hv (by omega) ?_
    refine wn_put (s := 3) hu (by (try simp only [List.length_append, List.length_cons, List.length_nil]); omega) (by omega) (by omega) hv (by omega) (fun u1 h1 => ?_)
    refine wn_last h1 (by (try simp only [List.length_append, List.length_cons, List.length_nil]); omega) hv (fun u2 h2 => k u2 ?_)
    simpa only [List.append_assoc, List.cons_append, List.nil_append, Nat.reducePow] using h2
  by_cases c3 : v < 512
  · rw [if_neg c1, if_neg c2, if_pos c3] at k
    refine wn_skip (s := 15) (by omega) (by omega) hv (by omega) ?_
    refine wn_skip (s := 12) (by omega) (by omega) hv (by omega) ?_
    refine wn_skip (s := 9) (by omega) (by omega) hv (by omega) ?_
    refine wn_put (s := 6) hu (by (try simp only [List.length_append, List.length_cons, List.length_nil]); omega) (by omega) (by omega) hv (by omega) (fun u1 h1 => ?_)
    refine wn_put (s := 3) h1 (by (try simp only [List.length_append, List.length_cons, List.length_nil]); omega) (by omega) (by omega) hv (by omega) (fun u2 h2 => ?_)
    refine wn_last h2 (by (try simp only [List.length_append, List.length_cons, List.length_nil]); omega) hv (fun u3 h3 => k u3 ?_)
    simpa only [List.append_assoc, List.cons_append, List.nil_append, Nat.reducePow] using h3
  by_cases c4 : v < 4096
  · rw [if_neg c1, if_neg c2, if_neg c3, if_pos c4] at k
    refine wn_skip (s := 15) (by omega) (by omega) hv (by omega) ?_
    refine wn_skip (s := 12) (by omega) (by omega) hv (by omega) ?_
    refine wn_put (s := 9) hu (by (try simp only [List.length_append, List.length_cons, List.length_nil]); omega) (by omega) (by omega) hv (by omega) (fun u1 h1 => ?_)
    refine wn_put (s := 6) h1 (by (try simp only [List.length_append, List.length_cons, List.length_nil]); omega) (by omega) (by omega) hv (by omega) (fun u2 h2 => ?_)
    refine wn_put (s := 3) h2 (by (try simp only [List.length_append, List.length_cons, List.length_nil]); omega) (by omega) (by omega) hv (by omega) (fun u3 h3 => ?_)
    refine wn_last h3 (by (try simp only [List.length_append, List.length_cons, List.length_nil]); omega) hv (fun u4 h4 => k u4 ?_)
    simpa only [List.append_assoc, List.cons_append, List.nil_append, Nat.reducePow] using h4
  by_cases c5 : v < 32768
  · rw [if_neg c1, if_neg c2, if_neg c3, if_neg c4, if_pos c5] at k
    refine wn_skip (s := 15) (by omega) (by omega) hv (by omega) ?_
    refine wn_put (s := 12) hu (by (try simp only [List.length_append, List.length_cons, List.length_nil]); omega) (by omega) (by omega) hv (by omega) (fun u1 h1 => ?_)
    refine wn_put (s := 9) h1 (by (try simp only [List.length_append, List.length_cons, List.length_nil]); omega) (by omega) (by omega) hv (by omega) (fun u2 h2 => ?_)
    refine wn_put (s := 6) h2 (by (try simp only [List.length_append, List.length_cons, List.length_nil]); omega) (by omega) (by omega) hv (by omega) (fun u3 h3 => ?_)
    refine wn_put (s := 3) h3 (by (try simp only [List.length_append, List.length_cons, List.length_nil]); omega) (by omega) (by omega) hv (by omega) (fun u4 h4 => ?_)
    refine wn_last h4 (by (try simp only [List.length_append, List.length_cons, List.length_nil]); omega) hv (fun u5 h5 => k u5 ?_)
    simpa only [List.append_assoc, List.cons_append, List.nil_append, Nat.reducePow] using h5
  rw [if_neg c1, if_neg c2, if_neg c3, if_neg c4, if_neg c5] at k
  refine wn_put (s := 15) hu (by (try simp only [List.length_append, List.length_cons, List.length_nil]); omega) (by omega) (by omega) hv (by omega) (fun u1 h1 => ?_)
  refine wn_put (s := 12) h1 (by (try simp only [List.length_append, List.length_cons, List.length_nil]); omega) (by omega) (by omega) hv (by omega) (fun u2 h2 => ?_)
  refine wn_put (s := 9) h2 (by (try simp only [List.length_append, List.length_cons, List.length_nil]); omega) (by omega) (by omega) hv (by omega) (fun u3 h3 => ?_)
  refine wn_put (s := 6) h3 (by (try simp only [List.length_append, List.length_cons, List.length_nil]); omega) (by omega) (by omega) hv (by omega) (fun u4 h4 => ?_)
  refine wn_put (s := 3) h4 (by (try simp only [List.length_append, List.length_cons, List.length_nil]); omega) (by omega) (by omega) hv (by omega) (fun u5 h5 => ?_)
  refine wn_last h5 (by (try simp only [List.length_append, List.length_cons, List.length_nil]); omega) hv (fun u6 h6 => k u6 ?_)
  simpa only [List.append_assoc, List.cons_append, List.nil_append, Nat.reducePow] using h6
theorem rw_oct {σ0 u : SS} {l : List Nat} {v : Nat} {post : SS → Prop} (hu : RW σ0 l u) (hl : l.length + 6 ≤ 40) (hv : v < 65536) (k : ∀ u', RW σ0 (l ++ oct v) u' → post u') : f_R_octal post u (nI v) := by
  refine ⟨6, ?_⟩
  unfold oct at k
  by_cases c1 : v < 8
  · rw [if_pos c1] at k
    refine ro_go (w := 1) (m := 2) hv (by omega) (by omega) (by omega) ?_
    refine ro_say (w := 1) hu (by (try simp only [List.length_append, List.length_cons, List.length_nil]); omega) hv (by omega) (by omega) (fun u1 h1 => ?_)
    refine ro_end (k u1 ?_)
    simpa only [List.append_assoc, List.cons_append, List.nil_append, Nat.div_one] using h1
  by_cases c2 : v < 64
  · rw [if_neg c1, if_pos c2] at k
    refine ro_up (w := 1) hv (by omega) (by omega) (by omega) ?_
    refine ro_go (w := 8) (m := 3) hv (by omega) (by omega) (by omega) ?_
    refine ro_say (w := 8) hu (by (try simp only [List.length_append, List.length_cons, List.length_nil]); omega) hv (by omega) (by omega) (fun u1 h1 => ?_)
    refine ro_say (w := 1) h1 (by (try simp only [List.length_append, List.length_cons, List.length_nil]); omega) hv (by omega) (by omega) (fun u2 h2 => ?_)
    refine ro_end (k u2 ?_)
    simpa only [List.append_assoc, List.cons_append, List.nil_append, Nat.div_one] using h2
  by_cases c3 : v < 512
  · rw [if_neg c1, if_neg c2, if_pos c3] at k
    refine ro_up (w := 1) hv (by omega) (by omega) (by omega) ?_
    refine ro_up (w := 8) hv (by omega) (by omega) (by omega) ?_
    refine ro_go (w := 64) (m := 4) hv (by omega) (by omega) (by omega) ?_
    refine ro_say (w := 64) hu (by (try simp only [List.length_append, List.length_cons, List.length_nil]); omega) hv (by omega) (by omega) (fun u1 h1 => ?_)
    refine ro_say (w := 8) h1 (by (try simp only [List.length_append, List.length_cons, List.length_nil]); omega) hv (by omega) (by omega) (fun u2 h2 => ?_)
    refine ro_say (w := 1) h2 (by (try simp only [List.length_append, List.length_cons, List.length_nil]); omega) hv (by omega) (by omega) (fun u3 h3 => ?_)
    refine ro_end (k u3 ?_)
    simpa only [List.append_assoc, List.cons_append, List.nil_append, Nat.div_one] using h3
  by_cases c4 : v < 4096
  · rw [if_neg c1, if_neg c2, if_neg c3, if_pos c4] at k
    refine ro_up (w := 1) hv (by omega) (by omega) (by omega) ?_
    refine ro_up (w := 8) hv (by omega) (by omega) (by omega) ?_
    refine ro_up (w := 64) hv (by omega) (by omega) (by omega) ?_
    refine ro_go (w := 512) (m := 5) hv (by omega) (by omega) (by omega) ?_
    refine ro_say (w := 512) hu (by (try simp only [List.length_append, List.length_cons, List.length_nil]); omega) hv (by omega) (by omega) (fun u1 h1 => ?_)
    refine ro_say (w := 64) h1 (by (try simp only [List.length_append, List.length_cons, List.length_nil]); omega) hv (by omega) (by omega) (fun u2 h2 => ?_)
    refine ro_say (w := 8) h2 (by (try simp only [List.length_append, List.length_cons, List.length_nil]); omega) hv (by omega) (by omega) (fun u3 h3 => ?_)
    refine ro_say (w := 1) h3 (by (try simp only [List.length_append, List.length_cons, List.length_nil]); omega) hv (by omega) (by omega) (fun u4 h4 => ?_)
    refine ro_end (k u4 ?_)
    simpa only [List.append_assoc, List.cons_append, List.nil_append, Nat.div_one] using h4
  by_cases c5 : v < 32768
  · rw [if_neg c1, if_neg c2, if_neg c3, if_neg c4, if_pos c5] at k
    refine ro_up (w := 1) hv (by omega) (by omega) (by omega) ?_
    refine ro_up (w := 8) hv (by omega) (by omega) (by omega) ?_
    refine ro_up (w := 64) hv (by omega) (by omega) (by omega) ?_
    refine ro_up (w := 512) hv (by omega) (by omega) (by omega) ?_
    refine ro_go (w := 4096) (m := 6) hv (by omega) (by omega) (by omega) ?_
    refine ro_say (w := 4096) hu (by (try simp only [List.length_append, List.length_cons, List.length_nil]); omega) hv (by omega) (by omega) (fun u1 h1 => ?_)
    refine ro_say (w := 512) h1 (by (try simp only [List.length_append, List.length_cons, List.length_nil]); omega) hv (by omega) (by omega) (fun u2 h2 => ?_)
    refine ro_say (w := 64) h2 (by (try simp only [List.length_append, List.length_cons, List.length_nil]); omega) hv (by omega) (by omega) (fun u3 h3 => ?_)
    refine ro_say (w := 8) h3 (by (try simp only [List.length_append, List.length_cons, List.length_nil]); omega) hv (by omega) (by omega) (fun u4 h4 => ?_)
    refine ro_say (w := 1) h4 (by (try simp only [List.length_append, List.length_cons, List.length_nil]); omega) hv (by omega) (by omega) (fun u5 h5 => ?_)
    refine ro_end (k u5 ?_)
    simpa only [List.append_assoc, List.cons_append, List.nil_append, Nat.div_one] using h5
  rw [if_neg c1, if_neg c2, if_neg c3, if_neg c4, if_neg c5] at k
  refine ro_up (w := 1) hv (by omega) (by omega) (by omega) ?_
  refine ro_up (w := 8) hv (by omega) (by omega) (by omega) ?_
  refine ro_up (w := 64) hv (by omega) (by omega) (by omega) ?_
  refine ro_up (w := 512) hv (by omega) (by omega) (by omega) ?_
  refine ro_up (w := 4096) hv (by omega) (by omega) (by omega) ?_
  refine ro_go (w := 32768) (m := 7) hv (by omega) (by omega) (by omega) ?_
  refine ro_say (w := 32768) hu (by (try simp only [List.length_append, List.length_cons, List.length_nil]); omega) hv (by omega) (by omega) (fun u1 h1 => ?_)
  refine ro_say (w := 4096) h1 (by (try simp only [List.length_append, List.length_cons, List.length_nil]); omega) hv (by omega) (by omega) (fun u2 h2 => ?_)
  refine ro_say (w := 512) h2 (by (try simp only [List.length_append, List.length_cons, List.length_nil]); omega) hv (by omega) (by omega) (fun u3 h3 => ?_)
  refine ro_say (w := 64) h3 (by (try simp only [List.length_append, List.length_cons, List.length_nil]); omega) hv (by omega) (by omega) (fun u4 h4 => ?_)
  refine ro_say (w := 8) h4 (by (try simp only [List.length_append, List.length_cons, List.length_nil]); omega) hv (by omega) (by omega) (fun u5 h5 => ?_)
  refine ro_say (w := 1) h5 (by (try simp only [List.length_append, List.length_cons, List.length_nil]); omega) hv (by omega) (by omega) (fun u6 h6 => ?_)
  refine ro_end (k u6 ?_)
  simpa only [List.append_assoc, List.cons_append, List.nil_append, Nat.div_one] using h6
