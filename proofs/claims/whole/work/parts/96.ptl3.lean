/-! the pure side: tell, its pieces -/
def adrL (w : Nat) : List Nat := (if w / 1024 % 2 = 1 then [64] else []) ++ (if w / 256 % 4 = 0 then oct (w % 256) else oct (if w % 256 < 128 then w % 256 else w % 256 + 65280) ++ ([44] ++ oct (w / 256 % 4)))
theorem adrL_len (w : Nat) : (adrL w).length ≤ 14 := by
  have h1 := oct_len (w % 256)
  have h2 := oct_len (if w % 256 < 128 then w % 256 else w % 256 + 65280)
  have h3 := oct_len (w / 256 % 4)
  have a : (if w / 1024 % 2 = 1 then [64] else []).length ≤ 1 := by split <;> simp
  have b : (if w / 256 % 4 = 0 then oct (w % 256) else oct (if w % 256 < 128 then w % 256 else w % 256 + 65280) ++ ([44] ++ oct (w / 256 % 4))).length ≤ 13 := by
    by_cases c : w / 256 % 4 = 0
    · rw [if_pos c]; omega
    · rw [if_neg c, List.length_append, List.length_append]
      simp only [List.length_cons, List.length_nil]
      omega
  unfold adrL
  rw [List.length_append]
  omega
theorem cw_addr {σ0 u : SS} {l : List Nat} {w : Nat} {post : SS → Prop} (hu : CW σ0 l u) (hl : l.length + 14 ≤ 32) (hw : w < 65536) (k : ∀ u', CW σ0 (l ++ adrL w) u' → post u') : f_T_writeAddress post u (nI w) := by
  have h2 := oct_len (if w % 256 < 128 then w % 256 else w % 256 + 65280)
  have h3 := oct_len (w / 256 % 4)
  have mid : ∀ (l2 : List Nat) (u2 : SS), CW σ0 l2 u2 → l2.length + 13 ≤ 32 → (∀ u', CW σ0 (l2 ++ (if w / 256 % 4 = 0 then oct (w % 256) else oct (if w % 256 < 128 then w % 256 else w % 256 + 65280) ++ ([44] ++ oct (w / 256 % 4)))) u' → post u') → f_T_writeAddress_27 post u2 (nI (w / 256 % 4)) (nI (w % 256)) := by
    intro l2 u2 g1 g2 g3
    simp only [f_T_writeAddress_27]
    have last : ∀ d : Nat, d < 65536 → d = (if w % 256 < 128 then w % 256 else w % 256 + 65280) → w / 256 % 4 ≠ 0 → f_T_writeAddress_57 post u2 (nI (w / 256 % 4)) (nI d) := by
      intro d hd ed hm
      rw [if_neg hm, ← ed] at g3
      rw [← ed] at h2
      simp only [f_T_writeAddress_57]
      refine cw_num g1 (by omega) hd (fun u3 g4 => ?_)
      refine cw_write (c := 44) g4 (by rw [List.length_append]; omega) (by omega) (fun u4 g5 => ?_)
      refine cw_num g5 (by simp only [List.length_append, List.length_cons, List.length_nil]; omega) (by omega) (fun u5 g6 => g3 u5 ?_)
      simpa only [List.append_assoc] using g6
    by_cases hm : w / 256 % 4 = 0
    · rw [if_pos hm] at g3
      simp (disch := omega) only [nm, q_lit, q_add, q_sub, q_subN, q_n1, q_mul, q_div, q_nm, q_and, q_or, q_xor, q_shr, q_shl, q_cl, q_a1, q_a3, q_a7, q_a31, q_a63, q_a255, q_a15, q_a16, q_a17, q_a2, q_a4, q_a8, q_a1024, q_a65536, Nat.reduceMod, Nat.reducePow, Nat.reduceDiv, Nat.reduceMul, Nat.reduceAdd, Nat.reduceSub, Nat.reduceEqDiff, q_ltT, q_ltF, q_leT, q_leF, q_eqT, q_eqF, q_inT, q_bz0, q_bz1, b_T, b_F, true_and, and_true, if_true, if_false, hm]
      exact cw_num g1 (by omega) (by omega) g3
    · by_cases hd : w % 256 < 128
      · simp (disch := omega) only [nm, q_lit, q_add, q_sub, q_subN, q_n1, q_mul, q_div, q_nm, q_and, q_or, q_xor, q_shr, q_shl, q_cl, q_a1, q_a3, q_a7, q_a31, q_a63, q_a255, q_a15, q_a16, q_a17, q_a2, q_a4, q_a8, q_a1024, q_a65536, Nat.reduceMod, Nat.reducePow, Nat.reduceDiv, Nat.reduceMul, Nat.reduceAdd, Nat.reduceSub, Nat.reduceEqDiff, q_ltT, q_ltF, q_leT, q_leF, q_eqT, q_eqF, q_inT, q_bz0, q_bz1, b_T, b_F, true_and, and_true, if_true, if_false]
        exact last _ (by omega) (by rw [if_pos hd]) hm
      · simp (disch := omega) only [nm, q_lit, q_add, q_sub, q_subN, q_n1, q_mul, q_div, q_nm, q_and, q_or, q_xor, q_shr, q_shl, q_cl, q_a1, q_a3, q_a7, q_a31, q_a63, q_a255, q_a15, q_a16, q_a17, q_a2, q_a4, q_a8, q_a1024, q_a65536, Nat.reduceMod, Nat.reducePow, Nat.reduceDiv, Nat.reduceMul, Nat.reduceAdd, Nat.reduceSub, Nat.reduceEqDiff, q_ltT, q_ltF, q_leT, q_leF, q_eqT, q_eqF, q_inT, q_bz0, q_bz1, b_T, b_F, true_and, and_true, if_true, if_false]
        rw [show (w % 256 + 4294967296 - 256) % 65536 = w % 256 + 65280 by omega]
        exact last _ (by omega) (by rw [if_neg hd]) hm
  unfold adrL at k
  simp only [f_T_writeAddress]
  rcases Nat.mod_two_eq_zero_or_one (w / 1024) with z | z
  · simp (disch := omega) only [nm, q_lit, q_add, q_sub, q_subN, q_n1, q_mul, q_div, q_nm, q_and, q_or, q_xor, q_shr, q_shl, q_cl, q_a1, q_a3, q_a7, q_a31, q_a63, q_a255, q_a15, q_a16, q_a17, q_a2, q_a4, q_a8, q_a1024, q_a65536, Nat.reduceMod, Nat.reducePow, Nat.reduceDiv, Nat.reduceMul, Nat.reduceAdd, Nat.reduceSub, Nat.reduceEqDiff, q_ltT, q_ltF, q_leT, q_leF, q_eqT, q_eqF, q_inT, q_bz0, q_bz1, b_T, b_F, true_and, and_true, if_true, if_false, z]
    refine mid l u hu (by omega) (fun u' g => k u' ?_)
    rw [if_neg (by omega), List.nil_append]; exact g
  · simp (disch := omega) only [nm, q_lit, q_add, q_sub, q_subN, q_n1, q_mul, q_div, q_nm, q_and, q_or, q_xor, q_shr, q_shl, q_cl, q_a1, q_a3, q_a7, q_a31, q_a63, q_a255, q_a15, q_a16, q_a17, q_a2, q_a4, q_a8, q_a1024, q_a65536, Nat.reduceMod, Nat.reducePow, Nat.reduceDiv, Nat.reduceMul, Nat.reduceAdd, Nat.reduceSub, Nat.reduceEqDiff, q_ltT, q_ltF, q_leT, q_leF, q_eqT, q_eqF, q_inT, q_bz0, q_bz1, b_T, b_F, true_and, and_true, if_true, if_false, z]
    refine cw_write hu (by omega) (by omega) (fun u1 g => ?_)
    refine mid _ u1 g (by simp only [List.length_append, List.length_cons, List.length_nil]; omega) (fun u' g' => k u' ?_)
    rw [if_pos z, ← List.append_assoc]; exact g'
theorem rw_addr {σ0 u : SS} {l : List Nat} {w : Nat} {post : SS → Prop} (hu : RW σ0 l u) (hl : l.length + 14 ≤ 32) (hw : w < 65536) (k : ∀ u', RW σ0 (l ++ adrL w) u' → post u') : f_R_sayAddress post u (nI w) := by
  have h2 := oct_len (if w % 256 < 128 then w % 256 else w % 256 + 65280)
  have h3 := oct_len (w / 256 % 4)
  have mid : ∀ (l2 : List Nat) (u2 : SS), RW σ0 l2 u2 → l2.length + 13 ≤ 32 → (∀ u', RW σ0 (l2 ++ (if w / 256 % 4 = 0 then oct (w % 256) else oct (if w % 256 < 128 then w % 256 else w % 256 + 65280) ++ ([44] ++ oct (w / 256 % 4)))) u' → post u') → f_R_sayAddress_17 post u2 (nI w) := by
    intro l2 u2 g1 g2 g3
    simp only [f_R_sayAddress_17]
    have last : ∀ d : Nat, d < 65536 → d = (if w % 256 < 128 then w % 256 else w % 256 + 65280) → w / 256 % 4 ≠ 0 → f_R_sayAddress_50 post u2 (nI (w / 256 % 4)) (nI d) := by
      intro d hd ed hm
      rw [if_neg hm, ← ed] at g3
      rw [← ed] at h2
      simp only [f_R_sayAddress_50]
      refine rw_oct g1 (by omega) hd (fun u3 g4 => ?_)
      refine b_f (by rw [q_lit, q_eq (by omega) (by omega)]; exact hm) ?_
      refine rw_say (c := 44) g4 (by rw [List.length_append]; omega) (fun u4 g5 => ?_)
      refine rw_oct g5 (by simp only [List.length_append, List.length_cons, List.length_nil]; omega) (by omega) (fun u5 g6 => g3 u5 ?_)
      simpa only [List.append_assoc] using g6
    by_cases hm : w / 256 % 4 = 0
    · rw [if_pos hm] at g3
      simp (disch := omega) only [f_R_sayAddress_50, nm, q_lit, q_add, q_sub, q_subN, q_n1, q_mul, q_div, q_nm, q_and, q_or, q_xor, q_shr, q_shl, q_cl, q_a1, q_a3, q_a7, q_a31, q_a63, q_a255, q_a15, q_a16, q_a17, q_a2, q_a4, q_a8, q_a1024, q_a65536, Nat.reduceMod, Nat.reducePow, Nat.reduceDiv, Nat.reduceMul, Nat.reduceAdd, Nat.reduceSub, Nat.reduceEqDiff, q_ltT, q_ltF, q_leT, q_leF, q_eqT, q_eqF, q_inT, q_bz0, q_bz1, b_T, b_F, true_and, and_true, if_true, if_false, hm]
      exact rw_oct g1 (by omega) (by omega) g3
    · by_cases hd : w % 256 < 128
      · simp (disch := omega) only [nm, q_lit, q_add, q_sub, q_subN, q_n1, q_mul, q_div, q_nm, q_and, q_or, q_xor, q_shr, q_shl, q_cl, q_a1, q_a3, q_a7, q_a31, q_a63, q_a255, q_a15, q_a16, q_a17, q_a2, q_a4, q_a8, q_a1024, q_a65536, Nat.reduceMod, Nat.reducePow, Nat.reduceDiv, Nat.reduceMul, Nat.reduceAdd, Nat.reduceSub, Nat.reduceEqDiff, q_ltT, q_ltF, q_leT, q_leF, q_eqT, q_eqF, q_inT, q_bz0, q_bz1, b_T, b_F, true_and, and_true, if_true, if_false]
        exact last _ (by omega) (by rw [if_pos hd]) hm
      · simp (disch := omega) only [nm, q_lit, q_add, q_sub, q_subN, q_n1, q_mul, q_div, q_nm, q_and, q_or, q_xor, q_shr, q_shl, q_cl, q_a1, q_a3, q_a7, q_a31, q_a63, q_a255, q_a15, q_a16, q_a17, q_a2, q_a4, q_a8, q_a1024, q_a65536, Nat.reduceMod, Nat.reducePow, Nat.reduceDiv, Nat.reduceMul, Nat.reduceAdd, Nat.reduceSub, Nat.reduceEqDiff, q_ltT, q_ltF, q_leT, q_leF, q_eqT, q_eqF, q_inT, q_bz0, q_bz1, b_T, b_F, true_and, and_true, if_true, if_false]
        exact last _ (by omega) (by rw [if_neg hd]) hm
  unfold adrL at k
  simp only [f_R_sayAddress]
  rcases Nat.mod_two_eq_zero_or_one (w / 1024) with z | z
  · simp (disch := omega) only [nm, q_lit, q_add, q_sub, q_subN, q_n1, q_mul, q_div, q_nm, q_and, q_or, q_xor, q_shr, q_shl, q_cl, q_a1, q_a3, q_a7, q_a31, q_a63, q_a255, q_a15, q_a16, q_a17, q_a2, q_a4, q_a8, q_a1024, q_a65536, Nat.reduceMod, Nat.reducePow, Nat.reduceDiv, Nat.reduceMul, Nat.reduceAdd, Nat.reduceSub, Nat.reduceEqDiff, q_ltT, q_ltF, q_leT, q_leF, q_eqT, q_eqF, q_inT, q_bz0, q_bz1, b_T, b_F, true_and, and_true, if_true, if_false, z]
    refine mid l u hu (by omega) (fun u' g => k u' ?_)
    rw [if_neg (by omega), List.nil_append]; exact g
  · simp (disch := omega) only [nm, q_lit, q_add, q_sub, q_subN, q_n1, q_mul, q_div, q_nm, q_and, q_or, q_xor, q_shr, q_shl, q_cl, q_a1, q_a3, q_a7, q_a31, q_a63, q_a255, q_a15, q_a16, q_a17, q_a2, q_a4, q_a8, q_a1024, q_a65536, Nat.reduceMod, Nat.reducePow, Nat.reduceDiv, Nat.reduceMul, Nat.reduceAdd, Nat.reduceSub, Nat.reduceEqDiff, q_ltT, q_ltF, q_leT, q_leF, q_eqT, q_eqF, q_inT, q_bz0, q_bz1, b_T, b_F, true_and, and_true, if_true, if_false, z]
    refine rw_say hu (by omega) (fun u1 g => ?_)
    refine mid _ u1 g (by simp only [List.length_append, List.length_cons, List.length_nil]; omega) (fun u' g' => k u' ?_)
    rw [if_pos z, ← List.append_assoc]; exact g'
theorem c_skipN {u : SS} {k : Nat} {post : Nat → SS → Prop} (h1 : 0 < k) (h2 : k < 8) (h : post (8 + k) u) : f_G_skipName post u (nI k) := by
  refine ⟨12, ?_⟩
  have e0 : eG_number 0 = nI 8 := rfl
  have e1 : eG_number 1 = nI 9 := rfl
  have e2 : eG_number 2 = nI 10 := rfl
  have e3 : eG_number 3 = nI 63 := rfl
  have e4 : eG_number 4 = nI 1 := rfl
  have e5 : eG_number 5 = nI 2 := rfl
  have e6 : eG_number 6 = nI 3 := rfl
  have e7 : eG_number 7 = nI 4 := rfl
  have e8 : eG_number 8 = nI 5 := rfl
  have e9 : eG_number 9 = nI 6 := rfl
  have e10 : eG_number 10 = nI 7 := rfl
  have hq : k = 1 ∨ k = 2 ∨ k = 3 ∨ k = 4 ∨ k = 5 ∨ k = 6 ∨ k = 7 := by omega
  rcases hq with rfl | rfl | rfl | rfl | rfl | rfl | rfl <;> simp (disch := omega) only [f_G_skipName_2, nm, q_lit, q_add, q_sub, q_subN, q_n1, q_mul, q_div, q_nm, q_and, q_or, q_xor, q_shr, q_shl, q_cl, q_a1, q_a3, q_a7, q_a31, q_a63, q_a255, q_a15, q_a16, q_a17, q_a2, q_a4, q_a8, q_a1024, q_a65536, Nat.reduceMod, Nat.reducePow, Nat.reduceDiv, Nat.reduceMul, Nat.reduceAdd, Nat.reduceSub, Nat.reduceEqDiff, q_ltT, q_ltF, q_leT, q_leF, q_eqT, q_eqF, q_inT, q_bz0, q_bz1, b_T, b_F, true_and, and_true, if_true, if_false, e0, e1, e2, e3, e4, e5, e6, e7, e8, e9, e10] <;> exact h
def arL (w : Nat) : List Nat := (if w / 16 % 4 = 0 then [] else [kc 1 (w / 16 % 4 - 1)]) ++ ((if w / 64 % 4 = 0 then [] else [kc 2 (w / 64 % 4 - 1)]) ++ ((if w / 8 % 2 = 1 then [35] else []) ++ ([32] ++ (oct (w / 8192 % 4) ++ ([44] ++ (oct (w / 2048 % 4) ++ (if w % 8 = 0 then [] else [44] ++ tx (8 + w % 8))))))))
theorem tx_len (j : Nat) (hj : j < 50) : (tx j).length ≤ 6 := by
  unfold tx
  rw [List.length_map, List.length_range]
  exact (kS_f j hj).1
theorem arL_len (w : Nat) : (arL w).length ≤ 24 := by
  have h1 := oct_len (w / 8192 % 4)
  have h2 := oct_len (w / 2048 % 4)
  have h3 := tx_len (8 + w % 8) (by omega)
  have a : (if w / 16 % 4 = 0 then [] else [kc 1 (w / 16 % 4 - 1)]).length ≤ 1 := by split <;> simp
  have b : (if w / 64 % 4 = 0 then [] else [kc 2 (w / 64 % 4 - 1)]).length ≤ 1 := by split <;> simp
  have c : (if w / 8 % 2 = 1 then [35] else []).length ≤ 1 := by split <;> simp
  have d : (if w % 8 = 0 then [] else [44] ++ tx (8 + w % 8)).length ≤ 7 := by
    by_cases z : w % 8 = 0
    · rw [if_pos z]; simp
    · rw [if_neg z, List.length_append]; simp only [List.length_cons, List.length_nil]; omega
  unfold arL
  simp only [List.length_append, List.length_cons, List.length_nil]
  omega
theorem cw_ar {σ0 u : SS} {l : List Nat} {w : Nat} {post : SS → Prop} (hu : CW σ0 l u) (hl : l.length + 26 ≤ 32) (hw : w < 65536) (k : ∀ u', CW σ0 (l ++ arL w) u' → post u') : f_T_writeArithmetic post u (nI w) := by
  have h1 := oct_len (w / 8192 % 4)
  have h2 := oct_len (w / 2048 % 4)
  have a : (if w / 16 % 4 = 0 then [] else [kc 1 (w / 16 % 4 - 1)]).length ≤ 1 := by split <;> simp
  have b : (if w / 64 % 4 = 0 then [] else [kc 2 (w / 64 % 4 - 1)]).length ≤ 1 := by split <;> simp
  have tail : ∀ (l2 : List Nat) (u2 : SS), CW σ0 l2 u2 → l2.length + 22 ≤ 32 → (∀ u', CW σ0 (l2 ++ ([32] ++ (oct (w / 8192 % 4) ++ ([44] ++ (oct (w / 2048 % 4) ++ (if w % 8 = 0 then [] else [44] ++ tx (8 + w % 8))))))) u' → post u') → f_T_writeArithmetic_36 post u2 (nI w) := by
    intro l2 u2 g1 g2 g3
    simp (disch := omega) only [f_T_writeArithmetic_36, nm, q_lit, q_add, q_sub, q_subN, q_n1, q_mul, q_div, q_nm, q_and, q_or, q_xor, q_shr, q_shl, q_cl, q_a1, q_a3, q_a7, q_a31, q_a63, q_a255, q_a15, q_a16, q_a17, q_a2, q_a4, q_a8, q_a1024, q_a65536, Nat.reduceMod, Nat.reducePow, Nat.reduceDiv, Nat.reduceMul, Nat.reduceAdd, Nat.reduceSub, Nat.reduceEqDiff]
    refine cw_write g1 (by omega) (by omega) (fun u3 g4 => ?_)
    refine cw_num g4 (by simp only [List.length_append, List.length_cons, List.length_nil]; omega) (by omega) (fun u4 g5 => ?_)
    refine cw_write g5 (by simp only [List.length_append, List.length_cons, List.length_nil]; omega) (by omega) (fun u5 g6 => ?_)
    refine cw_num g6 (by simp only [List.length_append, List.length_cons, List.length_nil]; omega) (by omega) (fun u6 g7 => ?_)
    by_cases z : w % 8 = 0
    · rw [if_pos z] at g3
      refine b_t (by rw [z]) (g3 u6 ?_)
      simpa only [List.append_assoc, List.append_nil] using g7
    · rw [if_neg z] at g3
      refine b_f (by rw [q_eq (by omega) (by omega)]; exact z) ?_
      refine cw_write g7 (by simp only [List.length_append, List.length_cons, List.length_nil]; omega) (by omega) (fun u7 g8 => ?_)
      refine c_skipN (by omega) (by omega) ?_
      refine cw_text (by omega) g8 (by simp only [List.length_append, List.length_cons, List.length_nil]; omega) (fun u8 g9 => g3 u8 ?_)
      simpa only [List.append_assoc] using g9
  unfold arL at k
  simp (disch := omega) only [f_T_writeArithmetic, nm, q_lit, q_add, q_sub, q_subN, q_n1, q_mul, q_div, q_nm, q_and, q_or, q_xor, q_shr, q_shl, q_cl, q_a1, q_a3, q_a7, q_a31, q_a63, q_a255, q_a15, q_a16, q_a17, q_a2, q_a4, q_a8, q_a1024, q_a65536, Nat.reduceMod, Nat.reducePow, Nat.reduceDiv, Nat.reduceMul, Nat.reduceAdd, Nat.reduceSub, Nat.reduceEqDiff]
  refine cw_let (Or.inl rfl) (by omega) hu (by omega) (fun u1 g1 => ?_)
  refine cw_let (Or.inr (Or.inl rfl)) (by omega) g1 (by rw [List.length_append]; omega) (fun u2 g2 => ?_)
  rcases Nat.mod_two_eq_zero_or_one (w / 8) with z | z
  · rw [if_neg (show ¬ w / 8 % 2 = 1 by omega), List.nil_append] at k
    refine b_t (by rw [z]) (tail _ u2 g2 (by simp only [List.length_append]; omega) (fun u' g => k u' ?_))
    simpa only [List.append_assoc] using g
  · rw [if_pos z] at k
    refine b_f (by rw [z, q_eq (by omega) (by omega)]; omega) ?_
    refine cw_write g2 (by simp only [List.length_append]; omega) (by omega) (fun u3 g3 => ?_)
    refine tail _ u3 g3 (by simp only [List.length_append, List.length_cons, List.length_nil]; omega) (fun u' g => k u' ?_)
    simpa only [List.append_assoc] using g
theorem sk_1 : jI (nameR 0 (tx 9)) = 5458768 := by decide +kernel
theorem sk_2 : jI (nameR 0 (tx 10)) = 5462595 := by decide +kernel
theorem sk_3 : jI (nameR 0 (tx 11)) = 5459523 := by decide +kernel
theorem sk_4 : jI (nameR 0 (tx 12)) = 5462610 := by decide +kernel
theorem sk_5 : jI (nameR 0 (tx 13)) = 5459538 := by decide +kernel
theorem sk_6 : jI (nameR 0 (tx 14)) = 5457242 := by decide +kernel
theorem sk_7 : jI (nameR 0 (tx 15)) = 5456462 := by decide +kernel
theorem r_skipN {u : SS} {k : Nat} {post : Int64 → SS → Prop} (h1 : 0 < k) (h2 : k < 8) (h : post (jI (nameR 0 (tx (8 + k)))) u) : f_R_skipName post u (nI k) := by
  have hq : k = 1 ∨ k = 2 ∨ k = 3 ∨ k = 4 ∨ k = 5 ∨ k = 6 ∨ k = 7 := by omega
  rcases hq with rfl | rfl | rfl | rfl | rfl | rfl | rfl <;> simp (disch := omega) only [f_R_skipName, nm, q_lit, q_add, q_sub, q_subN, q_n1, q_mul, q_div, q_nm, q_and, q_or, q_xor, q_shr, q_shl, q_cl, q_a1, q_a3, q_a7, q_a31, q_a63, q_a255, q_a15, q_a16, q_a17, q_a2, q_a4, q_a8, q_a1024, q_a65536, Nat.reduceMod, Nat.reducePow, Nat.reduceDiv, Nat.reduceMul, Nat.reduceAdd, Nat.reduceSub, Nat.reduceEqDiff, q_ltT, q_ltF, q_leT, q_leF, q_eqT, q_eqF, q_inT, q_bz0, q_bz1, b_T, b_F, true_and, and_true, if_true, if_false] at h ⊢
  · rw [sk_1] at h; exact h
  · rw [sk_2] at h; exact h
  · rw [sk_3] at h; exact h
  · rw [sk_4] at h; exact h
  · rw [sk_5] at h; exact h
  · rw [sk_6] at h; exact h
  · rw [sk_7] at h; exact h
/-- behind the name of an arithmetic instruction, in the reference -/
theorem rw_ar {σ0 u : SS} {l : List Nat} {w : Nat} {post : SS → Prop} (hu : RW σ0 l u) (hl : l.length + 26 ≤ 32) (hw : w < 65536) (k : ∀ u', RW σ0 (l ++ arL w) u' → post u') : nm ((nI w / 16) - (nI w / 16) / 4 * 4) fun x2_25 => nm ((nI w / 64) - (nI w / 64) / 4 * 4) fun x3_26 => br (x2_25 ≤ 0) (f_R_sayReckoning_59 post u (nI w) x3_26) (br (x2_25 = 1) (f_R_sayReckoning_56 post u (nI w) x3_26 90) (br (x2_25 = 2) (f_R_sayReckoning_56 post u (nI w) x3_26 79) (f_R_sayReckoning_56 post u (nI w) x3_26 67))) := by
  have h1 := oct_len (w / 8192 % 4)
  have h2 := oct_len (w / 2048 % 4)
  have a : (if w / 16 % 4 = 0 then [] else [kc 1 (w / 16 % 4 - 1)]).length ≤ 1 := by split <;> simp
  have b : (if w / 64 % 4 = 0 then [] else [kc 2 (w / 64 % 4 - 1)]).length ≤ 1 := by split <;> simp
  have tail : ∀ (l2 : List Nat) (u2 : SS), RW σ0 l2 u2 → l2.length + 22 ≤ 32 → (∀ u', RW σ0 (l2 ++ ([32] ++ (oct (w / 8192 % 4) ++ ([44] ++ (oct (w / 2048 % 4) ++ (if w % 8 = 0 then [] else [44] ++ tx (8 + w % 8))))))) u' → post u') → f_R_sayReckoning_105 post u2 (nI w) := by
    intro l2 u2 g1 g2 g3
    simp (disch := omega) only [f_R_sayReckoning_105, nm, q_lit, q_add, q_sub, q_subN, q_n1, q_mul, q_div, q_nm, q_and, q_or, q_xor, q_shr, q_shl, q_cl, q_a1, q_a3, q_a7, q_a31, q_a63, q_a255, q_a15, q_a16, q_a17, q_a2, q_a4, q_a8, q_a1024, q_a65536, Nat.reduceMod, Nat.reducePow, Nat.reduceDiv, Nat.reduceMul, Nat.reduceAdd, Nat.reduceSub, Nat.reduceEqDiff]
    refine rw_say g1 (by omega) (fun u3 g4 => ?_)
    refine rw_oct g4 (by simp only [List.length_append, List.length_cons, List.length_nil]; omega) (by omega) (fun u4 g5 => ?_)
    refine rw_say g5 (by simp only [List.length_append, List.length_cons, List.length_nil]; omega) (fun u5 g6 => ?_)
    refine rw_oct g6 (by simp only [List.length_append, List.length_cons, List.length_nil]; omega) (by omega) (fun u6 g7 => ?_)
    by_cases z : w % 8 = 0
    · rw [if_pos z] at g3
      refine b_t (by rw [z]) (g3 u6 ?_)
      simpa only [List.append_assoc, List.append_nil] using g7
    · rw [if_neg z] at g3
      refine b_f (by rw [q_eq (by omega) (by omega)]; exact z) ?_
      refine rw_say g7 (by simp only [List.length_append, List.length_cons, List.length_nil]; omega) (fun u7 g8 => ?_)
      refine r_skipN (by omega) (by omega) ?_
      refine rw_name (tx (8 + w % 8)) rfl (tx_N _ (by omega) (by omega)) g8 (by simp only [List.length_append, List.length_cons, List.length_nil]; omega) (fun u8 g9 => g3 u8 ?_)
      simpa only [List.append_assoc] using g9
  have mid : ∀ (l2 : List Nat) (u2 : SS), RW σ0 l2 u2 → l2.length + 23 ≤ 32 → (∀ u', RW σ0 (l2 ++ ((if w / 8 % 2 = 1 then [35] else []) ++ ([32] ++ (oct (w / 8192 % 4) ++ ([44] ++ (oct (w / 2048 % 4) ++ (if w % 8 = 0 then [] else [44] ++ tx (8 + w % 8)))))))) u' → post u') → f_R_sayReckoning_89 post u2 (nI w) := by
    intro l2 u2 g1 g2 g3
    rcases Nat.mod_two_eq_zero_or_one (w / 8) with z | z
    · rw [if_neg (show ¬ w / 8 % 2 = 1 by omega), List.nil_append] at g3
      simp (disch := omega) only [f_R_sayReckoning_89, nm, q_lit, q_add, q_sub, q_subN, q_n1, q_mul, q_div, q_nm, q_and, q_or, q_xor, q_shr, q_shl, q_cl, q_a1, q_a3, q_a7, q_a31, q_a63, q_a255, q_a15, q_a16, q_a17, q_a2, q_a4, q_a8, q_a1024, q_a65536, Nat.reduceMod, Nat.reducePow, Nat.reduceDiv, Nat.reduceMul, Nat.reduceAdd, Nat.reduceSub, Nat.reduceEqDiff, q_ltT, q_ltF, q_leT, q_leF, q_eqT, q_eqF, q_inT, q_bz0, q_bz1, b_T, b_F, true_and, and_true, if_true, if_false, z]
      exact tail l2 u2 g1 (by omega) g3
    · rw [if_pos z] at g3
      simp (disch := omega) only [f_R_sayReckoning_89, nm, q_lit, q_add, q_sub, q_subN, q_n1, q_mul, q_div, q_nm, q_and, q_or, q_xor, q_shr, q_shl, q_cl, q_a1, q_a3, q_a7, q_a31, q_a63, q_a255, q_a15, q_a16, q_a17, q_a2, q_a4, q_a8, q_a1024, q_a65536, Nat.reduceMod, Nat.reducePow, Nat.reduceDiv, Nat.reduceMul, Nat.reduceAdd, Nat.reduceSub, Nat.reduceEqDiff, q_ltT, q_ltF, q_leT, q_leF, q_eqT, q_eqF, q_inT, q_bz0, q_bz1, b_T, b_F, true_and, and_true, if_true, if_false, z]
      refine rw_say g1 (by omega) (fun u3 g4 => ?_)
      refine tail _ u3 g4 (by simp only [List.length_append, List.length_cons, List.length_nil]; omega) (fun u' g => g3 u' ?_)
      simpa only [List.append_assoc] using g
  have mid2 : ∀ (l2 : List Nat) (u2 : SS), RW σ0 l2 u2 → l2.length + 24 ≤ 32 → (∀ u', RW σ0 (l2 ++ ((if w / 64 % 4 = 0 then [] else [kc 2 (w / 64 % 4 - 1)]) ++ ((if w / 8 % 2 = 1 then [35] else []) ++ ([32] ++ (oct (w / 8192 % 4) ++ ([44] ++ (oct (w / 2048 % 4) ++ (if w % 8 = 0 then [] else [44] ++ tx (8 + w % 8))))))))) u' → post u') → f_R_sayReckoning_59 post u2 (nI w) (nI (w / 64 % 4)) := by
    intro l2 u2 g1 g2 g3
    have hq : w / 64 % 4 = 0 ∨ w / 64 % 4 = 1 ∨ w / 64 % 4 = 2 ∨ w / 64 % 4 = 3 := by omega
    rcases hq with z | z | z | z
    · rw [if_pos z, List.nil_append] at g3
      simp (disch := omega) only [f_R_sayReckoning_59, nm, q_lit, q_add, q_sub, q_subN, q_n1, q_mul, q_div, q_nm, q_and, q_or, q_xor, q_shr, q_shl, q_cl, q_a1, q_a3, q_a7, q_a31, q_a63, q_a255, q_a15, q_a16, q_a17, q_a2, q_a4, q_a8, q_a1024, q_a65536, Nat.reduceMod, Nat.reducePow, Nat.reduceDiv, Nat.reduceMul, Nat.reduceAdd, Nat.reduceSub, Nat.reduceEqDiff, q_ltT, q_ltF, q_leT, q_leF, q_eqT, q_eqF, q_inT, q_bz0, q_bz1, b_T, b_F, true_and, and_true, if_true, if_false, z]
      exact mid l2 u2 g1 (by omega) g3
    all_goals
      rw [if_neg (by omega), z] at g3
      simp (disch := omega) only [f_R_sayReckoning_59, f_R_sayReckoning_86, nm, q_lit, q_add, q_sub, q_subN, q_n1, q_mul, q_div, q_nm, q_and, q_or, q_xor, q_shr, q_shl, q_cl, q_a1, q_a3, q_a7, q_a31, q_a63, q_a255, q_a15, q_a16, q_a17, q_a2, q_a4, q_a8, q_a1024, q_a65536, Nat.reduceMod, Nat.reducePow, Nat.reduceDiv, Nat.reduceMul, Nat.reduceAdd, Nat.reduceSub, Nat.reduceEqDiff, q_ltT, q_ltF, q_leT, q_leF, q_eqT, q_eqF, q_inT, q_bz0, q_bz1, b_T, b_F, true_and, and_true, if_true, if_false, z]
      refine rw_say g1 (by omega) (fun u3 g4 => ?_)
      refine mid _ u3 g4 (by simp only [List.length_append, List.length_cons, List.length_nil]; omega) (fun u' g => g3 u' ?_)
      rw [List.append_assoc] at g
      exact g
  unfold arL at k
  have hq : w / 16 % 4 = 0 ∨ w / 16 % 4 = 1 ∨ w / 16 % 4 = 2 ∨ w / 16 % 4 = 3 := by omega
  rcases hq with z | z | z | z
  · rw [if_pos z, List.nil_append] at k
    simp (disch := omega) only [nm, q_lit, q_add, q_sub, q_subN, q_n1, q_mul, q_div, q_nm, q_and, q_or, q_xor, q_shr, q_shl, q_cl, q_a1, q_a3, q_a7, q_a31, q_a63, q_a255, q_a15, q_a16, q_a17, q_a2, q_a4, q_a8, q_a1024, q_a65536, Nat.reduceMod, Nat.reducePow, Nat.reduceDiv, Nat.reduceMul, Nat.reduceAdd, Nat.reduceSub, Nat.reduceEqDiff, q_ltT, q_ltF, q_leT, q_leF, q_eqT, q_eqF, q_inT, q_bz0, q_bz1, b_T, b_F, true_and, and_true, if_true, if_false, z]
    exact mid2 l u hu (by omega) k
  all_goals
    rw [if_neg (by omega), z] at k
    simp (disch := omega) only [f_R_sayReckoning_56, nm, q_lit, q_add, q_sub, q_subN, q_n1, q_mul, q_div, q_nm, q_and, q_or, q_xor, q_shr, q_shl, q_cl, q_a1, q_a3, q_a7, q_a31, q_a63, q_a255, q_a15, q_a16, q_a17, q_a2, q_a4, q_a8, q_a1024, q_a65536, Nat.reduceMod, Nat.reducePow, Nat.reduceDiv, Nat.reduceMul, Nat.reduceAdd, Nat.reduceSub, Nat.reduceEqDiff, q_ltT, q_ltF, q_leT, q_leF, q_eqT, q_eqF, q_inT, q_bz0, q_bz1, b_T, b_F, true_and, and_true, if_true, if_false, z]
    refine rw_say hu (by omega) (fun u3 g4 => ?_)
    refine mid2 _ u3 g4 (by simp only [List.length_append, List.length_cons, List.length_nil]; omega) (fun u' g => k u' ?_)
    rw [List.append_assoc] at g
    exact g
