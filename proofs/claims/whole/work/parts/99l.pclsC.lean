/-! the pure side: statements by their names, in the class -/
def ix (a b c x : Nat) : Nat := if x = a then 1 else if x = b then 2 else if x = c then 3 else 0
theorem ix_le (a b c x : Nat) : ix a b c x ≤ 3 := by unfold ix; (repeat' split) <;> omega
def sufI (r : List Nat) : Nat := if (if ix 83 67 80 (r.getD 0 0) = 0 then r else r.drop 1) = [] then ix 83 67 80 (r.getD 0 0) * 64 else 4294967295
def sufA1 (r : List Nat) : List Nat := if ix 90 79 67 (r.getD 0 0) = 0 then r else r.drop 1
def sufA (r : List Nat) : Nat := if (if ix 76 82 83 ((sufA1 r).getD 0 0) = 0 then sufA1 r else (sufA1 r).drop 1) = [] then ix 90 79 67 (r.getD 0 0) * 16 + ix 76 82 83 ((sufA1 r).getD 0 0) * 64 else 4294967295
/-- the further bits of a name as statement i; 4294967295: it is another name -/
def fbN (i : Nat) (cs : List Nat) : Nat := if fmN i = 4 then (if cs.take 3 = tx (ltN i) then sufA (cs.drop 3) else 4294967295) else if fmN i = 5 ∨ fmN i = 6 then (if cs.take 3 = tx (ltN i) then sufI (cs.drop 3) else 4294967295) else if cs = tx (ltN i) then 0 else 4294967295
theorem fbN_lt (i : Nat) (cs : List Nat) : fbN i cs = 4294967295 ∨ fbN i cs < 256 := by
  unfold fbN sufA sufI
  have h1 := ix_le 83 67 80 ((cs.drop 3).getD 0 0)
  have h2 := ix_le 90 79 67 ((cs.drop 3).getD 0 0)
  have h3 := ix_le 76 82 83 ((sufA1 (cs.drop 3)).getD 0 0)
  (repeat' split) <;> first | exact Or.inl rfl | (right; omega)
def okL (l : List Nat) : Prop := l.length ≤ 6 ∧ ∀ c ∈ l, 0 < c ∧ c < 256
theorem okL_tail {c : Nat} {r : List Nat} (h : okL (c :: r)) : okL r := ⟨by have := h.1; rw [List.length_cons] at this; omega, fun x hx => h.2 x (List.mem_cons_of_mem _ hx)⟩
theorem okL_drop {l : List Nat} (h : okL l) (n : Nat) : okL (l.drop n) := ⟨by rw [List.length_drop]; have := h.1; omega, fun x hx => h.2 x (List.mem_of_mem_drop hx)⟩
theorem isN_okL {cs : List Nat} (h : isN cs) : okL cs := ⟨h.2.1, fun c hc => by have := isL_b (h.2.2 c hc); omega⟩
theorem nC_64 {l : List Nat} (h : okL l) : nameC l < 18446744073709551616 := by
  rw [nameC_e l (by have := h.1; omega)]
  have h1 := nameR_lt l (fun c hc => (h.2 c hc).2)
  have h2 := h.1
  have : nameR 0 l * 256 ^ (8 - l.length) < 256 ^ l.length * 256 ^ (8 - l.length) := Nat.mul_lt_mul_of_pos_right h1 (Nat.pos_of_ne_zero (by simp))
  rw [← Nat.pow_add, show l.length + (8 - l.length) = 8 by omega] at this
  exact this
theorem nC_top {l : List Nat} (h : okL l) : nameC l / 72057594037927936 = l.getD 0 0 := by
  cases l with
  | nil => rfl
  | cons c r =>
    have := nC_64 (okL_tail h)
    show (c * 72057594037927936 + nameC r / 256) / 72057594037927936 = c
    omega
theorem nC_256 {l : List Nat} (h : okL l) : nameC l % 256 = 0 := by
  rw [nameC_e l (by have := h.1; omega)]
  have := h.1
  obtain ⟨m, hm⟩ : ∃ m, 8 - l.length = m + 1 := ⟨7 - l.length, by omega⟩
  rw [hm, Nat.pow_succ, ← Nat.mul_assoc]
  exact Nat.mul_mod_left _ _
theorem nC_shl {l : List Nat} (h : okL l) : jI (nameC l * 256) = jI (nameC (l.drop 1)) := by
  cases l with
  | nil => rfl
  | cons c r =>
    have h1 := nC_256 (okL_tail h)
    have e : nameC (c :: r) * 256 = nameC r + c * 18446744073709551616 := by
      show (c * 72057594037927936 + nameC r / 256) * 256 = _
      omega
    rw [e, ← j_add, ← j_mul, show jI 18446744073709551616 = jI 0 by decide, j_mul, Nat.mul_zero]
    show jI (nameC r) + jI 0 = jI (nameC r)
    rw [j_add, Nat.add_zero]
theorem nC_0 {l : List Nat} (h : okL l) : nameC l = 0 ↔ l = [] := by
  refine ⟨fun e => ?_, fun e => by rw [e]; rfl⟩
  cases l with
  | nil => rfl
  | cons c r =>
    have := (h.2 c List.mem_cons_self).1
    have e : c * 72057594037927936 + nameC r / 256 = 0 := e
    omega
theorem nC_3 {l : List Nat} (h : okL l) : nameC l / 1099511627776 = l.getD 0 0 * 65536 + l.getD 1 0 * 256 + l.getD 2 0 := by
  cases l with
  | nil => rfl
  | cons a r =>
    have h1 := okL_tail h
    have b1 := nC_64 h1
    have e1 : nameC (a :: r) = a * 72057594037927936 + nameC r / 256 := rfl
    cases r with
    | nil =>
      have e2 : nameC ([] : List Nat) = 0 := rfl
      show nameC [a] / 1099511627776 = a * 65536 + 0 * 256 + 0
      rw [e1, e2]; omega
    | cons b s =>
      have h2 := okL_tail h1
      have b2 := nC_64 h2
      have e2 : nameC (b :: s) = b * 72057594037927936 + nameC s / 256 := rfl
      cases s with
      | nil =>
        have e3 : nameC ([] : List Nat) = 0 := rfl
        show nameC [a, b] / 1099511627776 = a * 65536 + b * 256 + 0
        rw [e1, e2, e3]; omega
      | cons c q =>
        have h3 := okL_tail h2
        have b3 := nC_64 h3
        have e3 : nameC (c :: q) = c * 72057594037927936 + nameC q / 256 := rfl
        show nameC (a :: b :: c :: q) / 1099511627776 = a * 65536 + b * 256 + c
        rw [e1, e2, e3]; omega
theorem take3 {l k : List Nat} (h : okL l) (hk : okL k) (hl : k.length = 3) : (nameC l / 1099511627776 = nameC k / 1099511627776) ↔ l.take 3 = k := by
  rw [nC_3 h, nC_3 hk]
  match k, hl with
  | [x, y, z], _ =>
    have kx := hk.2 x (by simp)
    have ky := hk.2 y (by simp)
    have kz := hk.2 z (by simp)
    show l.getD 0 0 * 65536 + l.getD 1 0 * 256 + l.getD 2 0 = x * 65536 + y * 256 + z ↔ _
    match l, h with
    | [], _ => exact ⟨fun e => by simp at e; omega, fun e => by simp at e⟩
    | [a], h =>
      have := h.2 a (by simp)
      refine ⟨fun e => ?_, fun e => by simp at e⟩
      have e : a * 65536 + 0 * 256 + 0 = x * 65536 + y * 256 + z := e
      omega
    | [a, b], h =>
      have h1 := h.2 a (by simp)
      have h2 := h.2 b (by simp)
      refine ⟨fun e => ?_, fun e => by simp at e⟩
      have e : a * 65536 + b * 256 + 0 = x * 65536 + y * 256 + z := e
      omega
    | a :: b :: c :: q, h =>
      have h1 := h.2 a (by simp)
      have h2 := h.2 b (by simp)
      have h3 := h.2 c (by simp)
      refine ⟨fun e => ?_, fun e => ?_⟩
      · have e : a * 65536 + b * 256 + c = x * 65536 + y * 256 + z := e
        have e1 : a = x := by omega
        have e2 : b = y := by omega
        have e3 : c = z := by omega
        rw [e1, e2, e3]; rfl
      · have e : [a, b, c] = [x, y, z] := e
        cases e
        rfl
theorem kS123 : ∀ j, j < 4 → 0 < j → kS_len j = 3 ∧ Int32.ofNat (kS_len j) = nI 3 := by decide
theorem c_ix {σ : SS} {j x a b c : Nat} {post : Int32 → SS → Prop} (hj : 0 < j) (hj2 : j < 4) (hx : x < 128) (ha : kS_byt j 0 = nI a ∧ a < 128) (hb : kS_byt j 1 = nI b ∧ b < 128) (hc : kS_byt j 2 = nI c ∧ c < 128) (h : ∀ r, r + nI 1 = nI (ix a b c x) → post r σ) : f_JStr_indexOf1 post σ j (nI x) := by
  obtain ⟨k7, k6⟩ := kS123 j hj2 hj
  have hj5 : j < 50 := by omega
  unfold ix at h
  have go : f_JLat_indexOfChar4 (fun r_7 σ_6 => post r_7 σ_6) σ j (nI x) (nI 0) (nI 3) := by
    refine ⟨4, ?_⟩
    show f_JLat_indexOfChar4_7 _ 4 σ j (nI 3) (by8 x) (nI 0)
    rw [by_lo x hx]
    by_cases c0 : x = a
    · rw [if_pos c0] at h
      simp (disch := omega) only [f_JLat_indexOfChar4_7, nm, q_lit, q_add, q_sub, q_subN, q_n1, q_mul, q_div, q_nm, q_and, q_or, q_xor, q_shr, q_shl, q_cl, q_a1, q_a3, q_a7, q_a31, q_a63, q_a255, q_a15, q_a16, q_a17, q_a2, q_a4, q_a8, q_a1024, q_a65536, Nat.reduceMod, Nat.reducePow, Nat.reduceDiv, Nat.reduceMul, Nat.reduceAdd, Nat.reduceSub, Nat.reduceEqDiff, q_ltT, q_ltF, q_leT, q_leF, q_eqT, q_eqF, q_inT, q_bz0, q_bz1, b_T, b_F, true_and, and_true, if_true, if_false, hj5, ha.1, k7]; exact h _ (by decide)
    rw [if_neg c0] at h
    by_cases c1 : x = b
    · rw [if_pos c1] at h
      simp (disch := omega) only [f_JLat_indexOfChar4_7, nm, q_lit, q_add, q_sub, q_subN, q_n1, q_mul, q_div, q_nm, q_and, q_or, q_xor, q_shr, q_shl, q_cl, q_a1, q_a3, q_a7, q_a31, q_a63, q_a255, q_a15, q_a16, q_a17, q_a2, q_a4, q_a8, q_a1024, q_a65536, Nat.reduceMod, Nat.reducePow, Nat.reduceDiv, Nat.reduceMul, Nat.reduceAdd, Nat.reduceSub, Nat.reduceEqDiff, q_ltT, q_ltF, q_leT, q_leF, q_eqT, q_eqF, q_inT, q_bz0, q_bz1, b_T, b_F, true_and, and_true, if_true, if_false, hj5, ha.1, hb.1, k7]; exact h _ (by decide)
    rw [if_neg c1] at h
    by_cases c2 : x = c
    · rw [if_pos c2] at h
      simp (disch := omega) only [f_JLat_indexOfChar4_7, nm, q_lit, q_add, q_sub, q_subN, q_n1, q_mul, q_div, q_nm, q_and, q_or, q_xor, q_shr, q_shl, q_cl, q_a1, q_a3, q_a7, q_a31, q_a63, q_a255, q_a15, q_a16, q_a17, q_a2, q_a4, q_a8, q_a1024, q_a65536, Nat.reduceMod, Nat.reducePow, Nat.reduceDiv, Nat.reduceMul, Nat.reduceAdd, Nat.reduceSub, Nat.reduceEqDiff, q_ltT, q_ltF, q_leT, q_leF, q_eqT, q_eqF, q_inT, q_bz0, q_bz1, b_T, b_F, true_and, and_true, if_true, if_false, hj5, ha.1, hb.1, hc.1, k7]; exact h _ (by decide)
    rw [if_neg c2] at h
    simp (disch := omega) only [f_JLat_indexOfChar4_7, nm, q_lit, q_add, q_sub, q_subN, q_n1, q_mul, q_div, q_nm, q_and, q_or, q_xor, q_shr, q_shl, q_cl, q_a1, q_a3, q_a7, q_a31, q_a63, q_a255, q_a15, q_a16, q_a17, q_a2, q_a4, q_a8, q_a1024, q_a65536, Nat.reduceMod, Nat.reducePow, Nat.reduceDiv, Nat.reduceMul, Nat.reduceAdd, Nat.reduceSub, Nat.reduceEqDiff, q_ltT, q_ltF, q_leT, q_leF, q_eqT, q_eqF, q_inT, q_bz0, q_bz1, b_T, b_F, true_and, and_true, if_true, if_false, hj5, ha.1, hb.1, hc.1, k7]; exact h _ (by decide)
  simp (disch := omega) only [f_JStr_indexOf1, f_JStr_indexOf2, f_JStr_isLatin10, f_JStr_length0, f_JStr_coder0, f_JLat_indexOf4, f_JLat_canEncode1, nm, q_lit, q_add, q_sub, q_subN, q_n1, q_mul, q_div, q_nm, q_and, q_or, q_xor, q_shr, q_shl, q_cl, q_a1, q_a3, q_a7, q_a31, q_a63, q_a255, q_a15, q_a16, q_a17, q_a2, q_a4, q_a8, q_a1024, q_a65536, Nat.reduceMod, Nat.reducePow, Nat.reduceDiv, Nat.reduceMul, Nat.reduceAdd, Nat.reduceSub, Nat.reduceEqDiff, q_ltT, q_ltF, q_leT, q_leF, q_eqT, q_eqF, q_inT, q_bz0, q_bz1, b_T, b_F, true_and, and_true, if_true, if_false, k6, hj5, Nat.div_one]
  exact go
theorem eS_K : ∀ i, i < 35 → eS_key i = jI (nameC (tx (ltN i))) := by decide +kernel
theorem eS_3 : ∀ i, i < 35 → (fmN i = 4 ∨ fmN i = 5 ∨ fmN i = 6) → (tx (ltN i)).length = 3 := by decide +kernel
theorem tx_ok : ∀ j, j < 50 → (tx j).length ≤ 6 ∧ ∀ c ∈ tx j, 0 < c ∧ c < 256 := by decide +kernel
/-- what stands at the head of the rest of a name -/
theorem top_e {l : List Nat} (h : okL l) : ((((((jI (nameC l)).toUInt64 >>> ((56 : Int32).toInt64.toUInt64 &&& Int64.toUInt64 63)).toInt64).toInt32).toUInt32 % 65536).toInt32) = nI (l.getD 0 0) := by
  have e : (56 : Int32).toInt64.toUInt64 &&& Int64.toUInt64 63 = (jI 56).toUInt64 := by decide
  have hb : l.getD 0 0 < 256 := by
    cases l with
    | nil => decide
    | cons c r => exact (h.2 c List.mem_cons_self).2
  rw [e, j_ush (nC_64 h) (by omega), j_i]
  show ((nI (nameC l / 72057594037927936)).toUInt32 % 65536).toInt32 = _
  rw [nC_top h, u16_e (by omega)]
theorem shl8_e {l : List Nat} (h : okL l) : jI (nameC l) <<< ((8 : Int32).toInt64 &&& 63) = jI (nameC (l.drop 1)) := by
  rw [show (8 : Int32).toInt64 &&& 63 = jI 8 by decide, j_shl (by omega)]
  exact nC_shl h
theorem shl8_f {l : List Nat} (h : okL l) : jI (nameC l) <<< jI 8 = jI (nameC (l.drop 1)) := by
  rw [j_shl (by omega)]
  exact nC_shl h
theorem shl24_e {l : List Nat} (h : okL l) : jI (nameC l) <<< ((24 : Int32).toInt64 &&& 63) = jI (nameC (l.drop 3)) := by
  have e : ∀ a : Nat, jI a <<< jI 24 = ((jI a <<< jI 8) <<< jI 8) <<< jI 8 := by
    intro a
    rw [j_shl (by omega), j_shl (by omega), j_shl (by omega), j_shl (by omega)]
    exact congrArg jI (by rw [Nat.mul_assoc, Nat.mul_assoc, ← Nat.pow_add, ← Nat.pow_add])
  rw [show (24 : Int32).toInt64 &&& 63 = jI 24 by decide, e, shl8_f h, shl8_f (okL_drop h 1), List.drop_drop, shl8_f (okL_drop h _), List.drop_drop]
theorem k1_e : (kS_byt 1 0 = nI 90 ∧ 90 < 128) ∧ (kS_byt 1 1 = nI 79 ∧ 79 < 128) ∧ (kS_byt 1 2 = nI 67 ∧ 67 < 128) := by decide
theorem k2_e : (kS_byt 2 0 = nI 76 ∧ 76 < 128) ∧ (kS_byt 2 1 = nI 82 ∧ 82 < 128) ∧ (kS_byt 2 2 = nI 83 ∧ 83 < 128) := by decide
theorem k3_e : (kS_byt 3 0 = nI 83 ∧ 83 < 128) ∧ (kS_byt 3 1 = nI 67 ∧ 67 < 128) ∧ (kS_byt 3 2 = nI 80 ∧ 80 < 128) := by decide
def ok128 (l : List Nat) : Prop := ∀ c ∈ l, c < 128
theorem hd128 {l : List Nat} (h : ok128 l) : l.getD 0 0 < 128 := by
  cases l with
  | nil => decide
  | cons c r => exact h c List.mem_cons_self
theorem c_165 {σ : SS} {l : List Nat} {h w : Nat} {post : Int32 → SS → Prop} (hl : okL l) (hh : h ≤ 3) (hw : w ≤ 3) (h1 : l = [] → post (nI (h * 16 + w * 64)) σ) (h0 : l ≠ [] → post (nI 4294967295) σ) : f_S_furtherBits_165 post σ (nI h) (nI w) (jI (nameC l)) := by
  simp only [f_S_furtherBits_165]
  have b := nC_64 hl
  refine b_c (fun z => ?_) (fun z => ?_)
  · rw [q_lit, j_c0, j_lit, j_eq b (by omega), nC_0 hl] at z
    have e : (nI h <<< ((4 : Int32) &&& 31)) ||| (nI w <<< ((6 : Int32) &&& 31)) = nI (h * 16 + w * 64) := by
      simp (disch := omega) only [nm, q_lit, q_add, q_sub, q_subN, q_n1, q_mul, q_div, q_nm, q_and, q_or, q_xor, q_shr, q_shl, q_cl, q_a1, q_a3, q_a7, q_a31, q_a63, q_a255, q_a15, q_a16, q_a17, q_a2, q_a4, q_a8, q_a1024, q_a65536, Nat.reduceMod, Nat.reducePow, Nat.reduceDiv, Nat.reduceMul, Nat.reduceAdd, Nat.reduceSub, Nat.reduceEqDiff]
      exact congrArg nI (or_addR (b := h * 16) 6 w (by omega))
    rw [e]; exact h1 z
  · rw [q_lit, j_c0, j_lit, j_eq b (by omega), nC_0 hl] at z
    rw [q_lit, q_n1]; exact h0 z
theorem ok128_drop {l : List Nat} (h : ok128 l) (n : Nat) : ok128 (l.drop n) := fun c hc => h c (List.mem_of_mem_drop hc)
theorem c_132I {σ : SS} {l : List Nat} {post : Int32 → SS → Prop} (hl : okL l) (h8 : ok128 l) (h : post (nI (sufI l)) σ) : f_S_furtherBits_132 post σ (jI (nameC l)) (nI 0) 3 := by
  unfold sufI at h
  have lx := ix_le 83 67 80 (l.getD 0 0)
  simp only [f_S_furtherBits_132]
  refine ⟨by omega, ?_⟩
  rw [top_e hl]
  refine c_ix (a := 83) (b := 67) (c := 80) (by omega) (by omega) (hd128 h8) k3_e.1 k3_e.2.1 k3_e.2.2 (fun r hr => ?_)
  simp only [nm]
  rw [show r + 1 = nI (ix 83 67 80 (l.getD 0 0)) from hr]
  by_cases z : ix 83 67 80 (l.getD 0 0) = 0
  · rw [if_pos z, z] at h
    refine b_t (by rw [z]; rfl) ?_
    rw [z]
    refine c_165 hl (by omega) (by omega) (fun y => ?_) (fun y => ?_)
    · rw [if_pos y] at h; exact h
    · rw [if_neg y] at h; exact h
  · rw [if_neg z] at h
    refine b_f (by rw [q_lit, q_eq (by omega) (by omega)]; exact z) ?_
    rw [shl8_e hl]
    refine c_165 (okL_drop hl 1) (by omega) (by omega) (fun y => ?_) (fun y => ?_)
    · rw [if_pos y] at h; rw [Nat.zero_mul, Nat.zero_add]; exact h
    · rw [if_neg y] at h; exact h
theorem c_132A {σ : SS} {l : List Nat} {hg : Nat} {post : Int32 → SS → Prop} (hl : okL l) (h8 : ok128 l) (hh : hg ≤ 3) (h : post (nI (if (if ix 76 82 83 (l.getD 0 0) = 0 then l else l.drop 1) = [] then hg * 16 + ix 76 82 83 (l.getD 0 0) * 64 else 4294967295)) σ) : f_S_furtherBits_132 post σ (jI (nameC l)) (nI hg) 2 := by
  have lx := ix_le 76 82 83 (l.getD 0 0)
  simp only [f_S_furtherBits_132]
  refine ⟨by omega, ?_⟩
  rw [top_e hl]
  refine c_ix (a := 76) (b := 82) (c := 83) (by omega) (by omega) (hd128 h8) k2_e.1 k2_e.2.1 k2_e.2.2 (fun r hr => ?_)
  simp only [nm]
  rw [show r + 1 = nI (ix 76 82 83 (l.getD 0 0)) from hr]
  by_cases z : ix 76 82 83 (l.getD 0 0) = 0
  · rw [if_pos z, z] at h
    refine b_t (by rw [z]; rfl) ?_
    rw [z]
    refine c_165 hl hh (by omega) (fun y => ?_) (fun y => ?_)
    · rw [if_pos y] at h; exact h
    · rw [if_neg y] at h; exact h
  · rw [if_neg z] at h
    refine b_f (by rw [q_lit, q_eq (by omega) (by omega)]; exact z) ?_
    rw [shl8_e hl]
    refine c_165 (okL_drop hl 1) hh (by omega) (fun y => ?_) (fun y => ?_)
    · rw [if_pos y] at h; exact h
    · rw [if_neg y] at h; exact h
theorem c_fb {σ : SS} {cs : List Nat} {i : Nat} {post : Int32 → SS → Prop} (hn : isN cs) (hi : i < 35) (h : post (nI (fbN i cs)) σ) : f_S_furtherBits post σ i (jI (nameC cs)) := by
  have hl := isN_okL hn
  have h8 : ok128 cs := fun c hc => by have := isL_b (hn.2.2 c hc); omega
  obtain ⟨e1, e2, e3⟩ := eS_F i hi
  have ek := eS_K i hi
  have kok : okL (tx (ltN i)) := tx_ok _ e3
  have kf : fmN i < 11 := by
    have : ∀ i, i < 35 → fmN i < 11 := by decide +kernel
    exact this i hi
  have c40 : (fmN i = 4 ∨ fmN i = 5 ∨ fmN i = 6) → ((lg_cmp (((jI (nameC cs)).toUInt64 >>> ((40 : Int32).toInt64.toUInt64 &&& Int64.toUInt64 63)).toInt64) (((eS_key i).toUInt64 >>> ((40 : Int32).toInt64.toUInt64 &&& Int64.toUInt64 63)).toInt64)) = 0 ↔ cs.take 3 = tx (ltN i)) := by
    intro hf
    have e : (40 : Int32).toInt64.toUInt64 &&& Int64.toUInt64 63 = (jI 40).toUInt64 := by decide
    have b1 := nC_64 hl
    have b2 := nC_64 kok
    rw [e, ek, j_ush b1 (by omega), j_ush b2 (by omega), q_lit, j_c0, j_eq (by omega) (by omega)]
    exact take3 hl kok (eS_3 i hi hf)
  unfold fbN at h
  simp only [f_S_furtherBits]
  refine ⟨hi, ?_⟩
  rw [e1]
  have exact0 : fmN i ≠ 4 → ¬ (fmN i = 5 ∨ fmN i = 6) → f_S_furtherBits_30 post σ i (jI (nameC cs)) 0 := by
    intro n4 n56
    rw [if_neg n4, if_neg n56] at h
    simp only [f_S_furtherBits_30]
    refine b_t trivial ⟨hi, ?_⟩
    rw [ek]
    have hq : (jI (nameC cs) = jI (nameC (tx (ltN i)))) ↔ cs = tx (ltN i) := by
      by_cases z : 5 ≤ ltN i
      · exact eqC hn (tx_N _ z e3)
      · have e4 : tx (ltN i) = [] := by
          have : ∀ i, i < 35 → ltN i < 5 → tx (ltN i) = [] := by decide +kernel
          exact this i hi (by omega)
        rw [e4, j_eq (nC_64 hl) (by decide)]
        exact nC_0 hl
    refine b_c (fun z => ?_) (fun z => ?_)
    · rw [q_lit, j_c0, hq] at z
      rw [if_pos z] at h; exact h
    · rw [q_lit, j_c0, hq] at z
      rw [if_neg z] at h; rw [q_lit, q_n1]; exact h
  by_cases f4 : fmN i = 4
  · rw [if_pos f4] at h
    refine b_t (by rw [f4]; rfl) ?_
    simp only [f_S_furtherBits_30]
    refine b_f (by decide) ⟨hi, ?_⟩
    by_cases z : cs.take 3 = tx (ltN i)
    · rw [if_pos z] at h
      refine b_t ((c40 (Or.inl f4)).mpr z) ?_
      simp only [nm]
      rw [e1, shl24_e hl]
      refine b_t (by rw [f4]; rfl) ?_
      have hd := okL_drop hl 3
      have hd8 := ok128_drop h8 3
      rw [top_e hd]
      unfold sufA at h
      have lx := ix_le 90 79 67 ((cs.drop 3).getD 0 0)
      refine c_ix (a := 90) (b := 79) (c := 67) (by omega) (by omega) (hd128 hd8) k1_e.1 k1_e.2.1 k1_e.2.2 (fun r hr => ?_)
      rw [show r + 1 = nI (ix 90 79 67 ((cs.drop 3).getD 0 0)) from hr]
      have f117 : ∀ l, okL l → ok128 l → l = sufA1 (cs.drop 3) → f_S_furtherBits_117 post σ i (jI (nameC l)) (nI (ix 90 79 67 ((cs.drop 3).getD 0 0))) := by
        intro l l1 l2 l3
        simp only [f_S_furtherBits_117]
        refine ⟨hi, b_t (by rw [e1, f4]; rfl) ?_⟩
        refine c_132A l1 l2 lx ?_
        rw [l3]; exact h
      by_cases y : ix 90 79 67 ((cs.drop 3).getD 0 0) = 0
      · refine b_t (by rw [y]; rfl) (f117 _ hd hd8 (by unfold sufA1; rw [if_pos y]))
      · refine b_f (by rw [q_lit, q_eq (by omega) (by omega)]; exact y) ?_
        rw [shl8_e hd]
        exact f117 _ (okL_drop hd 1) (ok128_drop hd8 1) (by unfold sufA1; rw [if_neg y])
    · rw [if_neg z] at h
      refine b_f (fun y => z ((c40 (Or.inl f4)).mp y)) ?_
      rw [q_lit, q_n1]; exact h
  refine b_f (by rw [q_lit, q_eq (by omega) (by omega)]; exact f4) ?_
  have io : (fmN i = 5 ∨ fmN i = 6) → f_S_furtherBits_30 post σ i (jI (nameC cs)) 1 := by
    intro f56
    rw [if_neg f4, if_pos f56] at h
    simp only [f_S_furtherBits_30]
    refine b_f (by decide) ⟨hi, ?_⟩
    by_cases z : cs.take 3 = tx (ltN i)
    · rw [if_pos z] at h
      refine b_t ((c40 (by omega)).mpr z) ?_
      simp only [nm]
      rw [e1, shl24_e hl]
      refine b_f (by rw [q_lit, q_eq (by omega) (by omega)]; exact f4) ?_
      simp only [f_S_furtherBits_117]
      refine ⟨hi, b_f (by rw [e1, q_lit, q_eq (by omega) (by omega)]; exact f4) ?_⟩
      exact c_132I (okL_drop hl 3) (ok128_drop h8 3) h
    · rw [if_neg z] at h
      refine b_f (fun y => z ((c40 (by omega)).mp y)) ?_
      rw [q_lit, q_n1]; exact h
  by_cases f5 : fmN i = 5
  · exact b_t (by rw [f5]; rfl) (io (Or.inl f5))
  refine b_f (by rw [q_lit, q_eq (by omega) (by omega)]; exact f5) ?_
  by_cases f6 : fmN i = 6
  · exact b_t (by rw [f6]; rfl) (io (Or.inr f6))
  · exact b_f (by rw [q_lit, q_eq (by omega) (by omega)]; exact f6) (exact0 f4 (by omega))
/-- the statement of a name -/
theorem c_named {σ : SS} {cs : List Nat} {t : Nat} {post : Nat → SS → Prop} (hn : isN cs) (ht : t < 35) (h1 : ∀ i, i < t → fbN i cs = 4294967295) (h2 : fbN t cs ≠ 4294967295 ∨ t = 34) (h : post t σ) : f_S_named post σ (jI (nameC cs)) := by
  have L : ∀ k i, i + k = t → f_S_named_2 post (k + 2) σ (jI (nameC cs)) (nI i) := by
    intro k
    induction k with
    | zero =>
      intro i hi
      have : i = t := by omega
      subst this
      rw [f_S_named_2]
      refine b_f (by rw [q_lit, q_le (by omega) (by omega)]; omega) ⟨by rw [q_in (by omega)]; omega, ?_⟩
      rw [q_cl (by omega)]
      have lt := fbN_lt i cs
      refine c_fb hn ht (b_c (fun z => ?_) (fun z => ⟨by rw [q_in (by omega)]; omega, h⟩))
      rw [q_lit, q_n1, q_eq (by omega) (by omega)] at z
      have e34 : i = 34 := by omega
      subst e34
      simp only [nm]
      rw [show nI 34 + 1 = nI 35 from q_add 34 1, f_S_named_2]
      exact b_t (by decide) h
    | succ k ih =>
      intro i hi
      rw [f_S_named_2]
      refine b_f (by rw [q_lit, q_le (by omega) (by omega)]; omega) ⟨by rw [q_in (by omega)]; omega, ?_⟩
      rw [q_cl (by omega)]
      refine c_fb hn (by omega) (b_t ?_ ?_)
      · rw [h1 i (by omega), q_lit, q_n1]
      · simp only [nm]
        rw [show nI i + 1 = nI (i + 1) from q_add i 1]
        exact ih (i + 1) (by omega)
  exact ⟨t + 2, L t 0 (by omega)⟩
