/-! the pure side: texts and names -/
def kc (j i : Nat) : Nat := (kS_byt j i).toNatClampNeg
theorem kS_f : ∀ j, j < 50 → kS_len j ≤ 6 ∧ ∀ i, i < 6 → kS_byt j i = nI (kc j i) ∧ kc j i < 128 := by decide +kernel
def tx (j : Nat) : List Nat := (List.range (kS_len j)).map (kc j)
theorem c_charAt {u : SS} {j i : Nat} {post : Int32 → SS → Prop} (hj : j < 50) (hi : i < kS_len j) (h : post (nI (kc j i)) u) : f_JStr_charAt1 post u j (nI i) := by
  obtain ⟨h1, h2⟩ := kS_f j hj
  obtain ⟨h3, h4⟩ := h2 i (by omega)
  have e1 : Int32.ofNat (kS_len j) = nI (kS_len j) := rfl
  simp (disch := omega) only [f_JStr_charAt1, f_JStr_isLatin10, f_JLat_charAt2, f_JStr_checkIndex2, f_JPre_checkIndex3_n, f_JPre_checkIndex3_r, nm, q_lit, q_add, q_sub, q_subN, q_n1, q_mul, q_div, q_nm, q_and, q_or, q_xor, q_shr, q_shl, q_cl, q_a1, q_a3, q_a7, q_a31, q_a63, q_a255, q_a15, q_a16, q_a17, q_a2, q_a4, q_a8, q_a1024, q_a65536, Nat.reduceMod, Nat.reducePow, Nat.reduceDiv, Nat.reduceMul, Nat.reduceAdd, Nat.reduceSub, Nat.reduceEqDiff, q_ltT, q_ltF, q_leT, q_leF, q_eqT, q_eqF, q_inT, q_bz0, q_bz1, b_T, b_F, true_and, and_true, if_true, if_false, hj, hi, e1, h3, implies_true, forall_const]
  rw [Nat.mod_eq_of_lt (show kc j i < 256 by omega), u16_e (by omega)]
  exact ⟨h, h⟩
theorem c_len {u : SS} {j : Nat} {post : Int32 → SS → Prop} (hj : j < 50) (h : post (nI (kS_len j)) u) : f_JStr_length0 post u j := by
  obtain ⟨h1, h2⟩ := kS_f j hj
  have e1 : Int32.ofNat (kS_len j) = nI (kS_len j) := rfl
  simp (disch := omega) only [f_JStr_length0, f_JStr_coder0, nm, q_lit, q_add, q_sub, q_subN, q_n1, q_mul, q_div, q_nm, q_and, q_or, q_xor, q_shr, q_shl, q_cl, q_a1, q_a3, q_a7, q_a31, q_a63, q_a255, q_a15, q_a16, q_a17, q_a2, q_a4, q_a8, q_a1024, q_a65536, Nat.reduceMod, Nat.reducePow, Nat.reduceDiv, Nat.reduceMul, Nat.reduceAdd, Nat.reduceSub, Nat.reduceEqDiff, q_ltT, q_ltF, q_leT, q_leF, q_eqT, q_eqF, q_inT, q_bz0, q_bz1, b_T, b_F, true_and, and_true, if_true, if_false, hj, e1, Nat.div_one]
  exact h
theorem cw_textL {σ0 : SS} {j : Nat} {post : SS → Prop} (hj : j < 50) (n : Nat) : ∀ (i : Nat) (l : List Nat) (u : SS), i + n = kS_len j → CW σ0 l u → l.length + n ≤ 32 → (∀ u', CW σ0 (l ++ (List.range' i n).map (kc j)) u' → post u') → f_T_writeText_2 post (n + 1) u j (nI i) := by
  obtain ⟨h1, h2⟩ := kS_f j hj
  induction n with
  | zero =>
    intro i l u hi hu hl k
    rw [f_T_writeText_2]
    refine ⟨hj, c_len hj (b_t ?_ ?_)⟩
    · rw [q_le (by omega) (by omega)]; omega
    · refine k u ?_
      simpa using hu
  | succ n ih =>
    intro i l u hi hu hl k
    obtain ⟨h3, h4⟩ := h2 i (by omega)
    rw [f_T_writeText_2]
    refine ⟨hj, c_len hj (b_f ?_ (c_charAt hj (by omega) (cw_write hu (by omega) (by omega) (fun u' h' => ?_))))⟩
    · rw [q_le (by omega) (by omega)]; omega
    · simp (disch := omega) only [nm, q_lit, q_add]
      refine ih (i + 1) (l ++ [kc j i]) u' (by omega) h' (by rw [List.length_append]; simp only [List.length_cons, List.length_nil]; omega) (fun u2 h2 => k u2 ?_)
      rw [List.range'_succ, List.map_cons]
      simpa only [List.append_assoc, List.cons_append, List.nil_append] using h2
theorem cw_text {σ0 u : SS} {l : List Nat} {j : Nat} {post : SS → Prop} (hj : j < 50) (hu : CW σ0 l u) (hl : l.length + 6 ≤ 32) (k : ∀ u', CW σ0 (l ++ tx j) u' → post u') : f_T_writeText post u j := by
  obtain ⟨h1, h2⟩ := kS_f j hj
  refine ⟨kS_len j + 1, cw_textL hj (kS_len j) 0 l u (by omega) hu (by omega) (fun u' h' => k u' ?_)⟩
  unfold tx
  rw [List.range_eq_range']
  exact h'
theorem cw_let {σ0 u : SS} {l : List Nat} {j x : Nat} {post : SS → Prop} (hj : j = 1 ∨ j = 2 ∨ j = 3) (hx : x ≤ 3) (hu : CW σ0 l u) (hl : l.length < 32) (k : ∀ u', CW σ0 (l ++ (if x = 0 then [] else [kc j (x - 1)])) u' → post u') : f_T_writeLetter post u j (nI x) := by
  have hj2 : j < 50 := by omega
  have hl3 : kS_len j = 3 := by rcases hj with rfl | rfl | rfl <;> rfl
  obtain ⟨h1, h2⟩ := kS_f j hj2
  simp only [f_T_writeLetter]
  by_cases hx0 : x = 0
  · subst hx0
    refine b_t (by decide) (k u ?_)
    simpa using hu
  · obtain ⟨h3, h4⟩ := h2 (x - 1) (by omega)
    rw [if_neg hx0] at k
    refine b_f ?_ ⟨hj2, c_len hj2 (b_f ?_ ?_)⟩
    · rw [q_lit, q_lt (by omega) (by omega)]; omega
    · rw [q_lt (by omega) (by omega)]; omega
    · have e : nI x - 1 = nI (x - 1) := q_sub (b := 1) (by omega)
      rw [e]
      exact c_charAt hj2 (by omega) (cw_write hu hl (by omega) k)
theorem nameR_get (cs : List Nat) : ∀ i, i < cs.length → (∀ c ∈ cs, c < 256) → nameR 0 cs / 256 ^ (cs.length - 1 - i) % 256 = cs.getD i 0 := by
  induction cs with
  | nil => intro i hi; simp at hi
  | cons c r ih =>
    intro i hi hc
    have hr : ∀ x ∈ r, x < 256 := fun x hx => hc x (List.mem_cons_of_mem _ hx)
    have hb := nameR_lt r hr
    have hp : 0 < 256 ^ r.length := Nat.pos_of_ne_zero (by simp)
    simp only [List.length_cons, Nat.add_sub_cancel] at hi ⊢
    have e0 : nameR 0 (c :: r) = c * 256 ^ r.length + nameR 0 r := by
      show nameR (0 * 256 + c) r = _
      rw [nameR_a r (0 * 256 + c), Nat.zero_mul, Nat.zero_add]
    rw [e0]
    cases i with
    | zero =>
      rw [Nat.sub_zero, Nat.mul_comm, Nat.mul_add_div hp, Nat.div_eq_of_lt hb, Nat.add_zero, Nat.mod_eq_of_lt (hc c List.mem_cons_self)]
      rfl
    | succ i =>
      have h1 := ih i (by omega) hr
      have e1 : r.length - (i + 1) = r.length - 1 - i := by omega
      have e2 : c * 256 ^ r.length = 256 ^ (r.length - 1 - i) * (c * 256 ^ i * 256) := by
        rw [show r.length = (r.length - 1 - i) + (i + 1) by omega, Nat.pow_add, Nat.pow_succ, show (r.length - 1 - i + (i + 1) - 1 - i) = r.length - 1 - i by omega]
        rw [Nat.mul_left_comm, Nat.mul_assoc c]
      rw [e1, e2, Nat.mul_add_div (Nat.pos_of_ne_zero (by simp)), Nat.mul_comm _ 256, Nat.mul_add_mod, h1]
      rfl
theorem r_letter {u : SS} {cs : List Nat} {i : Nat} {post : Int32 → SS → Prop} (h : isN cs) (hi : i < cs.length) (hp : post (nI (cs.getD i 0)) u) : f_R_letter post u (jI (nameR 0 cs)) (nI i) := by
  obtain ⟨k1, k2, k3⟩ := id h
  have hN := isN_48 h
  refine r_size h ?_
  have e : ((jI (nameR 0 cs) >>> ((8 * ((nI cs.length - 1) - nI i)).toInt64 &&& 63)).toInt32) &&& 255 = nI (cs.getD i 0) := by
    have e1 : (8 * ((nI cs.length - 1) - nI i)).toInt64 &&& 63 = jI (8 * (cs.length - 1 - i)) := by
      simp (disch := omega) only [nm, q_lit, q_add, q_sub, q_subN, q_n1, q_mul, q_div, q_nm, q_and, q_or, q_xor, q_shr, q_shl, q_cl, q_a1, q_a3, q_a7, q_a31, q_a63, q_a255, q_a15, q_a16, q_a17, q_a2, q_a4, q_a8, q_a1024, q_a65536, Nat.reduceMod, Nat.reducePow, Nat.reduceDiv, Nat.reduceMul, Nat.reduceAdd, Nat.reduceSub, Nat.reduceEqDiff]
      rw [n_j (by omega), j_lit, j_and, q_a63, Nat.mod_eq_of_lt (by omega)]
    rw [e1, j_shr (by omega) (by omega), j_i, q_lit, q_and, q_a255, Nat.pow_mul]
    congr 1
    exact nameR_get cs i hi (fun c hc => by have := isL_b (k3 c hc); omega)
  rw [e]
  exact hp
theorem rw_nameL {σ0 : SS} {cs : List Nat} {post : SS → Prop} (h : isN cs) (n : Nat) : ∀ (i : Nat) (l : List Nat) (u : SS), i + n = cs.length → RW σ0 l u → l.length + n ≤ 40 → (∀ u', RW σ0 (l ++ cs.drop i) u' → post u') → f_R_sayName_2 post (n + 1) u (jI (nameR 0 cs)) (nI i) := by
  have h2 := h.2.1
  induction n with
  | zero =>
    intro i l u hi hu hl k
    rw [f_R_sayName_2]
    refine r_size h (b_t ?_ ?_)
    · rw [q_le (by omega) (by omega)]; omega
    · refine k u ?_
      rw [List.drop_of_length_le (by omega), List.append_nil]
      exact hu
  | succ n ih =>
    intro i l u hi hu hl k
    rw [f_R_sayName_2]
    refine r_size h (b_f ?_ (r_letter h (by omega) (rw_say hu (by omega) (fun u' h' => ?_))))
    · rw [q_le (by omega) (by omega)]; omega
    · simp (disch := omega) only [nm, q_lit, q_add]
      refine ih (i + 1) (l ++ [cs.getD i 0]) u' (by omega) h' (by rw [List.length_append]; simp only [List.length_cons, List.length_nil]; omega) (fun u2 h2 => k u2 ?_)
      have e : cs.drop i = cs.getD i 0 :: cs.drop (i + 1) := by
        rw [List.drop_eq_getElem_cons (show i < cs.length by omega)]
        simp [List.getD, List.getElem?_eq_getElem (show i < cs.length by omega)]
      rw [e]
      simpa only [List.append_assoc, List.cons_append, List.nil_append] using h2
theorem rw_name {σ0 u : SS} {l : List Nat} (cs : List Nat) {x : Int64} {post : SS → Prop} (hx : x = jI (nameR 0 cs)) (h : isN cs) (hu : RW σ0 l u) (hl : l.length + 6 ≤ 40) (k : ∀ u', RW σ0 (l ++ cs) u' → post u') : f_R_sayName post u x := by
  have h2 := h.2.1
  subst hx
  exact ⟨cs.length + 1, rw_nameL h cs.length 0 l u (by omega) hu (by omega) k⟩
/-- the class's texts are names -/
def isN2 (cs : List Nat) : Prop := 0 < cs.length ∧ cs.length ≤ 6 ∧ ∀ c ∈ cs, (65 ≤ c ∧ c ≤ 90) ∨ c = 46 ∨ (48 ≤ c ∧ c ≤ 57)
theorem tx_N (j : Nat) (h1 : 5 ≤ j) (h2 : j < 50) : isN (tx j) := by
  have : ∀ j, j < 50 → 5 ≤ j → (0 < (tx j).length ∧ (tx j).length ≤ 6 ∧ ∀ c ∈ tx j, (65 ≤ c ∧ c ≤ 90) ∨ c = 46 ∨ (48 ≤ c ∧ c ≤ 57)) := by decide +kernel
  exact this j h2 h1
