/-! the pure side: more of the small calls -/
theorem pt_device (j : Nat) : PT_device (RelJ j) (RelJ (j + 1)) := by
  intro σ τ g x1 x2 hR
  have hR := RelJ_mono j σ τ hR
  by_cases h1 : x1 < nI 8
  · simp (disch := omega) only [f_N_device, f_N_device_25, f_R_device, f_R_device_26, lawT, lawE, f_R_thrown, f_R_fails, f_R_fails_10, f_R_within, f_N_isWithin, f_N_require, f_N_requireRoom, uL, false_implies, true_implies, implies_true, or_false, false_or, and_self, or_true, true_or, if_true, if_false, nm, q_lit, q_add, q_sub, q_subN, q_n1, q_mul, q_div, q_nm, q_and, q_or, q_xor, q_shr, q_shl, q_cl, q_a1, q_a3, q_a7, q_a31, q_a63, q_a255, q_a15, q_a16, q_a17, q_a2, q_a4, q_a8, q_a1024, q_a65536, Nat.reduceMod, Nat.reducePow, Nat.reduceDiv, Nat.reduceMul, Nat.reduceAdd, Nat.reduceSub, Nat.reduceEqDiff, q_ltT, q_ltF, q_leT, q_leF, q_eqT, q_eqF, q_inT, q_bz0, q_bz1, b_T, b_F, true_and, and_true, if_true, if_false, sI_1, sI_2, sA_1, sA_2, sA_3, u_at, h1]; exact hR
  by_cases h2 : nI 10 < x1
  · simp (disch := omega) only [f_N_device, f_N_device_25, f_R_device, f_R_device_26, lawT, lawE, f_R_thrown, f_R_fails, f_R_fails_10, f_R_within, f_N_isWithin, f_N_require, f_N_requireRoom, uL, false_implies, true_implies, implies_true, or_false, false_or, and_self, or_true, true_or, if_true, if_false, nm, q_lit, q_add, q_sub, q_subN, q_n1, q_mul, q_div, q_nm, q_and, q_or, q_xor, q_shr, q_shl, q_cl, q_a1, q_a3, q_a7, q_a31, q_a63, q_a255, q_a15, q_a16, q_a17, q_a2, q_a4, q_a8, q_a1024, q_a65536, Nat.reduceMod, Nat.reducePow, Nat.reduceDiv, Nat.reduceMul, Nat.reduceAdd, Nat.reduceSub, Nat.reduceEqDiff, q_ltT, q_ltF, q_leT, q_leF, q_eqT, q_eqF, q_inT, q_bz0, q_bz1, b_T, b_F, true_and, and_true, if_true, if_false, sI_1, sI_2, sA_1, sA_2, sA_3, u_at, h1, h2]; exact hR
  by_cases h3 : x2 < nI 0
  · simp (disch := omega) only [f_N_device, f_N_device_25, f_R_device, f_R_device_26, lawT, lawE, f_R_thrown, f_R_fails, f_R_fails_10, f_R_within, f_N_isWithin, f_N_require, f_N_requireRoom, uL, false_implies, true_implies, implies_true, or_false, false_or, and_self, or_true, true_or, if_true, if_false, nm, q_lit, q_add, q_sub, q_subN, q_n1, q_mul, q_div, q_nm, q_and, q_or, q_xor, q_shr, q_shl, q_cl, q_a1, q_a3, q_a7, q_a31, q_a63, q_a255, q_a15, q_a16, q_a17, q_a2, q_a4, q_a8, q_a1024, q_a65536, Nat.reduceMod, Nat.reducePow, Nat.reduceDiv, Nat.reduceMul, Nat.reduceAdd, Nat.reduceSub, Nat.reduceEqDiff, q_ltT, q_ltF, q_leT, q_leF, q_eqT, q_eqF, q_inT, q_bz0, q_bz1, b_T, b_F, true_and, and_true, if_true, if_false, sI_1, sI_2, sA_1, sA_2, sA_3, u_at, h1, h2, h3]; exact hR
  by_cases h4 : nI 2 < x2
  · simp (disch := omega) only [f_N_device, f_N_device_25, f_R_device, f_R_device_26, lawT, lawE, f_R_thrown, f_R_fails, f_R_fails_10, f_R_within, f_N_isWithin, f_N_require, f_N_requireRoom, uL, false_implies, true_implies, implies_true, or_false, false_or, and_self, or_true, true_or, if_true, if_false, nm, q_lit, q_add, q_sub, q_subN, q_n1, q_mul, q_div, q_nm, q_and, q_or, q_xor, q_shr, q_shl, q_cl, q_a1, q_a3, q_a7, q_a31, q_a63, q_a255, q_a15, q_a16, q_a17, q_a2, q_a4, q_a8, q_a1024, q_a65536, Nat.reduceMod, Nat.reducePow, Nat.reduceDiv, Nat.reduceMul, Nat.reduceAdd, Nat.reduceSub, Nat.reduceEqDiff, q_ltT, q_ltF, q_leT, q_leF, q_eqT, q_eqF, q_inT, q_bz0, q_bz1, b_T, b_F, true_and, and_true, if_true, if_false, sI_1, sI_2, sA_1, sA_2, sA_3, u_at, h1, h2, h3, h4]; exact hR
  have h10 : ¬ x1 < nI 0 := by
    intro z
    apply h1
    rw [Int32.lt_iff_toInt_lt] at z ⊢
    have e1 : (nI 0).toInt = 0 := by decide
    have e2 : (nI 8).toInt = 8 := by decide
    omega
  obtain ⟨a, ha, rfl⟩ := c0_31 h10 (by omega) h2
  obtain ⟨v, hv, rfl⟩ := c0_31 h3 (by omega) h4
  rw [q_lt (by omega) (by omega)] at h1
  obtain ⟨hm, hg, hp, hl, hi, ⟨⟨a1, _, a2, a3, a4, a5, _⟩, ⟨b1, _, b2, b3, b4, b5, _⟩, ⟨c1, _, c2, c3, c4, c5, _⟩⟩, hr⟩ := id hR
  obtain ⟨n1, l1, v1⟩ := bz_N a3
  obtain ⟨n2, l2, v2⟩ := bz_N a5
  obtain ⟨n3, l3, v3⟩ := bz_N b3
  obtain ⟨n4, l4, v4⟩ := bz_N b5
  obtain ⟨n5, l5, v5⟩ := bz_N c3
  obtain ⟨n6, l6, v6⟩ := bz_N c5
  have v1' := a2.symm.trans v1
  have v2' := a4.symm.trans v2
  have v3' := b2.symm.trans v3
  have v4' := b4.symm.trans v4
  have v5' := c2.symm.trans v5
  have v6' := c4.symm.trans v6
  have hq : a = 8 ∨ a = 9 ∨ a = 10 := by omega
  have hv3 : v = 0 ∨ v = 1 ∨ v = 2 := by omega
  rcases hq with rfl | rfl | rfl
  · rcases hv3 with rfl | rfl | rfl
    · simp (disch := omega) only [f_N_device, f_N_device_25, f_M_readDevice, f_M_deviceAt, f_R_device, f_R_device_26, lawT, lawE, f_R_thrown, f_R_fails, f_R_fails_10, f_R_within, f_N_isWithin, f_N_require, f_N_requireRoom, uL, false_implies, true_implies, implies_true, or_false, false_or, and_self, or_true, true_or, if_true, if_false, nm, q_lit, q_add, q_sub, q_subN, q_n1, q_mul, q_div, q_nm, q_and, q_or, q_xor, q_shr, q_shl, q_cl, q_a1, q_a3, q_a7, q_a31, q_a63, q_a255, q_a15, q_a16, q_a17, q_a2, q_a4, q_a8, q_a1024, q_a65536, Nat.reduceMod, Nat.reducePow, Nat.reduceDiv, Nat.reduceMul, Nat.reduceAdd, Nat.reduceSub, Nat.reduceEqDiff, q_ltT, q_ltF, q_leT, q_leF, q_eqT, q_eqF, q_inT, q_bz0, q_bz1, b_T, b_F, true_and, and_true, if_true, if_false, sI_1, sI_2, sA_1, sA_2, sA_3, u_at]
      exact ⟨by rw [a1], hR⟩
    · rcases Nat.le_one_iff_eq_zero_or_eq_one.mp l1 with rfl | rfl <;> simp (disch := omega) only [f_N_device, f_N_device_25, f_M_readDevice, f_M_deviceAt, f_R_device, f_R_device_26, lawT, lawE, f_R_thrown, f_R_fails, f_R_fails_10, f_R_within, f_N_isWithin, f_N_require, f_N_requireRoom, uL, false_implies, true_implies, implies_true, or_false, false_or, and_self, or_true, true_or, if_true, if_false, nm, q_lit, q_add, q_sub, q_subN, q_n1, q_mul, q_div, q_nm, q_and, q_or, q_xor, q_shr, q_shl, q_cl, q_a1, q_a3, q_a7, q_a31, q_a63, q_a255, q_a15, q_a16, q_a17, q_a2, q_a4, q_a8, q_a1024, q_a65536, Nat.reduceMod, Nat.reducePow, Nat.reduceDiv, Nat.reduceMul, Nat.reduceAdd, Nat.reduceSub, Nat.reduceEqDiff, q_ltT, q_ltF, q_leT, q_leF, q_eqT, q_eqF, q_inT, q_bz0, q_bz1, b_T, b_F, true_and, and_true, if_true, if_false, sI_1, sI_2, sA_1, sA_2, sA_3, u_at, v1, v1'] <;> exact hR
    · rcases Nat.le_one_iff_eq_zero_or_eq_one.mp l2 with rfl | rfl <;> simp (disch := omega) only [f_N_device, f_N_device_25, f_M_readDevice, f_M_deviceAt, f_R_device, f_R_device_26, lawT, lawE, f_R_thrown, f_R_fails, f_R_fails_10, f_R_within, f_N_isWithin, f_N_require, f_N_requireRoom, uL, false_implies, true_implies, implies_true, or_false, false_or, and_self, or_true, true_or, if_true, if_false, nm, q_lit, q_add, q_sub, q_subN, q_n1, q_mul, q_div, q_nm, q_and, q_or, q_xor, q_shr, q_shl, q_cl, q_a1, q_a3, q_a7, q_a31, q_a63, q_a255, q_a15, q_a16, q_a17, q_a2, q_a4, q_a8, q_a1024, q_a65536, Nat.reduceMod, Nat.reducePow, Nat.reduceDiv, Nat.reduceMul, Nat.reduceAdd, Nat.reduceSub, Nat.reduceEqDiff, q_ltT, q_ltF, q_leT, q_leF, q_eqT, q_eqF, q_inT, q_bz0, q_bz1, b_T, b_F, true_and, and_true, if_true, if_false, sI_1, sI_2, sA_1, sA_2, sA_3, u_at, v2, v2'] <;> exact hR
  · rcases hv3 with rfl | rfl | rfl
    · simp (disch := omega) only [f_N_device, f_N_device_25, f_M_readDevice, f_M_deviceAt, f_R_device, f_R_device_26, lawT, lawE, f_R_thrown, f_R_fails, f_R_fails_10, f_R_within, f_N_isWithin, f_N_require, f_N_requireRoom, uL, false_implies, true_implies, implies_true, or_false, false_or, and_self, or_true, true_or, if_true, if_false, nm, q_lit, q_add, q_sub, q_subN, q_n1, q_mul, q_div, q_nm, q_and, q_or, q_xor, q_shr, q_shl, q_cl, q_a1, q_a3, q_a7, q_a31, q_a63, q_a255, q_a15, q_a16, q_a17, q_a2, q_a4, q_a8, q_a1024, q_a65536, Nat.reduceMod, Nat.reducePow, Nat.reduceDiv, Nat.reduceMul, Nat.reduceAdd, Nat.reduceSub, Nat.reduceEqDiff, q_ltT, q_ltF, q_leT, q_leF, q_eqT, q_eqF, q_inT, q_bz0, q_bz1, b_T, b_F, true_and, and_true, if_true, if_false, sI_1, sI_2, sA_1, sA_2, sA_3, u_at]
      exact ⟨by rw [b1], hR⟩
    · rcases Nat.le_one_iff_eq_zero_or_eq_one.mp l3 with rfl | rfl <;> simp (disch := omega) only [f_N_device, f_N_device_25, f_M_readDevice, f_M_deviceAt, f_R_device, f_R_device_26, lawT, lawE, f_R_thrown, f_R_fails, f_R_fails_10, f_R_within, f_N_isWithin, f_N_require, f_N_requireRoom, uL, false_implies, true_implies, implies_true, or_false, false_or, and_self, or_true, true_or, if_true, if_false, nm, q_lit, q_add, q_sub, q_subN, q_n1, q_mul, q_div, q_nm, q_and, q_or, q_xor, q_shr, q_shl, q_cl, q_a1, q_a3, q_a7, q_a31, q_a63, q_a255, q_a15, q_a16, q_a17, q_a2, q_a4, q_a8, q_a1024, q_a65536, Nat.reduceMod, Nat.reducePow, Nat.reduceDiv, Nat.reduceMul, Nat.reduceAdd, Nat.reduceSub, Nat.reduceEqDiff, q_ltT, q_ltF, q_leT, q_leF, q_eqT, q_eqF, q_inT, q_bz0, q_bz1, b_T, b_F, true_and, and_true, if_true, if_false, sI_1, sI_2, sA_1, sA_2, sA_3, u_at, v3, v3'] <;> exact hR
    · rcases Nat.le_one_iff_eq_zero_or_eq_one.mp l4 with rfl | rfl <;> simp (disch := omega) only [f_N_device, f_N_device_25, f_M_readDevice, f_M_deviceAt, f_R_device, f_R_device_26, lawT, lawE, f_R_thrown, f_R_fails, f_R_fails_10, f_R_within, f_N_isWithin, f_N_require, f_N_requireRoom, uL, false_implies, true_implies, implies_true, or_false, false_or, and_self, or_true, true_or, if_true, if_false, nm, q_lit, q_add, q_sub, q_subN, q_n1, q_mul, q_div, q_nm, q_and, q_or, q_xor, q_shr, q_shl, q_cl, q_a1, q_a3, q_a7, q_a31, q_a63, q_a255, q_a15, q_a16, q_a17, q_a2, q_a4, q_a8, q_a1024, q_a65536, Nat.reduceMod, Nat.reducePow, Nat.reduceDiv, Nat.reduceMul, Nat.reduceAdd, Nat.reduceSub, Nat.reduceEqDiff, q_ltT, q_ltF, q_leT, q_leF, q_eqT, q_eqF, q_inT, q_bz0, q_bz1, b_T, b_F, true_and, and_true, if_true, if_false, sI_1, sI_2, sA_1, sA_2, sA_3, u_at, v4, v4'] <;> exact hR
  · rcases hv3 with rfl | rfl | rfl
    · simp (disch := omega) only [f_N_device, f_N_device_25, f_M_readDevice, f_M_deviceAt, f_R_device, f_R_device_26, lawT, lawE, f_R_thrown, f_R_fails, f_R_fails_10, f_R_within, f_N_isWithin, f_N_require, f_N_requireRoom, uL, false_implies, true_implies, implies_true, or_false, false_or, and_self, or_true, true_or, if_true, if_false, nm, q_lit, q_add, q_sub, q_subN, q_n1, q_mul, q_div, q_nm, q_and, q_or, q_xor, q_shr, q_shl, q_cl, q_a1, q_a3, q_a7, q_a31, q_a63, q_a255, q_a15, q_a16, q_a17, q_a2, q_a4, q_a8, q_a1024, q_a65536, Nat.reduceMod, Nat.reducePow, Nat.reduceDiv, Nat.reduceMul, Nat.reduceAdd, Nat.reduceSub, Nat.reduceEqDiff, q_ltT, q_ltF, q_leT, q_leF, q_eqT, q_eqF, q_inT, q_bz0, q_bz1, b_T, b_F, true_and, and_true, if_true, if_false, sI_1, sI_2, sA_1, sA_2, sA_3, u_at]
      exact ⟨by rw [c1], hR⟩
    · rcases Nat.le_one_iff_eq_zero_or_eq_one.mp l5 with rfl | rfl <;> simp (disch := omega) only [f_N_device, f_N_device_25, f_M_readDevice, f_M_deviceAt, f_R_device, f_R_device_26, lawT, lawE, f_R_thrown, f_R_fails, f_R_fails_10, f_R_within, f_N_isWithin, f_N_require, f_N_requireRoom, uL, false_implies, true_implies, implies_true, or_false, false_or, and_self, or_true, true_or, if_true, if_false, nm, q_lit, q_add, q_sub, q_subN, q_n1, q_mul, q_div, q_nm, q_and, q_or, q_xor, q_shr, q_shl, q_cl, q_a1, q_a3, q_a7, q_a31, q_a63, q_a255, q_a15, q_a16, q_a17, q_a2, q_a4, q_a8, q_a1024, q_a65536, Nat.reduceMod, Nat.reducePow, Nat.reduceDiv, Nat.reduceMul, Nat.reduceAdd, Nat.reduceSub, Nat.reduceEqDiff, q_ltT, q_ltF, q_leT, q_leF, q_eqT, q_eqF, q_inT, q_bz0, q_bz1, b_T, b_F, true_and, and_true, if_true, if_false, sI_1, sI_2, sA_1, sA_2, sA_3, u_at, v5, v5'] <;> exact hR
    · rcases Nat.le_one_iff_eq_zero_or_eq_one.mp l6 with rfl | rfl <;> simp (disch := omega) only [f_N_device, f_N_device_25, f_M_readDevice, f_M_deviceAt, f_R_device, f_R_device_26, lawT, lawE, f_R_thrown, f_R_fails, f_R_fails_10, f_R_within, f_N_isWithin, f_N_require, f_N_requireRoom, uL, false_implies, true_implies, implies_true, or_false, false_or, and_self, or_true, true_or, if_true, if_false, nm, q_lit, q_add, q_sub, q_subN, q_n1, q_mul, q_div, q_nm, q_and, q_or, q_xor, q_shr, q_shl, q_cl, q_a1, q_a3, q_a7, q_a31, q_a63, q_a255, q_a15, q_a16, q_a17, q_a2, q_a4, q_a8, q_a1024, q_a65536, Nat.reduceMod, Nat.reducePow, Nat.reduceDiv, Nat.reduceMul, Nat.reduceAdd, Nat.reduceSub, Nat.reduceEqDiff, q_ltT, q_ltF, q_leT, q_leF, q_eqT, q_eqF, q_inT, q_bz0, q_bz1, b_T, b_F, true_and, and_true, if_true, if_false, sI_1, sI_2, sA_1, sA_2, sA_3, u_at, v6, v6'] <;> exact hR
theorem pt_tape (j : Nat) : PT_tape (RelJ j) (RelJ (j + 1)) := by
  intro σ τ g x1 hR
  have hR := RelJ_mono j σ τ hR
  by_cases h1 : x1 < nI 0
  · simp (disch := omega) only [f_N_tape, f_R_tape, f_R_tape_17, lawT, lawE, f_R_thrown, f_R_fails, f_R_fails_10, f_R_within, f_N_isWithin, f_N_require, f_N_requireRoom, uL, false_implies, true_implies, implies_true, or_false, false_or, and_self, or_true, true_or, if_true, if_false, nm, q_lit, q_add, q_sub, q_subN, q_n1, q_mul, q_div, q_nm, q_and, q_or, q_xor, q_shr, q_shl, q_cl, q_a1, q_a3, q_a7, q_a31, q_a63, q_a255, q_a15, q_a16, q_a17, q_a2, q_a4, q_a8, q_a1024, q_a65536, Nat.reduceMod, Nat.reducePow, Nat.reduceDiv, Nat.reduceMul, Nat.reduceAdd, Nat.reduceSub, Nat.reduceEqDiff, q_ltT, q_ltF, q_leT, q_leF, q_eqT, q_eqF, q_inT, q_bz0, q_bz1, b_T, b_F, true_and, and_true, if_true, if_false, sI_1, sI_2, sA_1, sA_2, sA_3, u_at, h1]; exact Or.inl hR
  by_cases h2 : nI 255 < x1
  · simp (disch := omega) only [f_N_tape, f_R_tape, f_R_tape_17, lawT, lawE, f_R_thrown, f_R_fails, f_R_fails_10, f_R_within, f_N_isWithin, f_N_require, f_N_requireRoom, uL, false_implies, true_implies, implies_true, or_false, false_or, and_self, or_true, true_or, if_true, if_false, nm, q_lit, q_add, q_sub, q_subN, q_n1, q_mul, q_div, q_nm, q_and, q_or, q_xor, q_shr, q_shl, q_cl, q_a1, q_a3, q_a7, q_a31, q_a63, q_a255, q_a15, q_a16, q_a17, q_a2, q_a4, q_a8, q_a1024, q_a65536, Nat.reduceMod, Nat.reducePow, Nat.reduceDiv, Nat.reduceMul, Nat.reduceAdd, Nat.reduceSub, Nat.reduceEqDiff, q_ltT, q_ltF, q_leT, q_leF, q_eqT, q_eqF, q_inT, q_bz0, q_bz1, b_T, b_F, true_and, and_true, if_true, if_false, sI_1, sI_2, sA_1, sA_2, sA_3, u_at, h1, h2]; exact Or.inl hR
  obtain ⟨a, ha, rfl⟩ := c0_31 h1 (by omega) h2
  obtain ⟨hm, hg, hp, hl, hi, hd, ⟨h, w, hh, hw, t1, t2, t3, t4⟩, hr⟩ := id hR
  by_cases hf : w = 500
  · subst hf
    simp (disch := omega) only [f_N_tape, f_N_tape_31, f_R_tape, f_R_tape_17, f_R_tape_40, lawT, lawE, f_R_thrown, f_R_fails, f_R_fails_10, f_R_within, f_N_isWithin, f_N_require, f_N_requireRoom, uL, false_implies, true_implies, implies_true, or_false, false_or, and_self, or_true, true_or, if_true, if_false, nm, q_lit, q_add, q_sub, q_subN, q_n1, q_mul, q_div, q_nm, q_and, q_or, q_xor, q_shr, q_shl, q_cl, q_a1, q_a3, q_a7, q_a31, q_a63, q_a255, q_a15, q_a16, q_a17, q_a2, q_a4, q_a8, q_a1024, q_a65536, Nat.reduceMod, Nat.reducePow, Nat.reduceDiv, Nat.reduceMul, Nat.reduceAdd, Nat.reduceSub, Nat.reduceEqDiff, q_ltT, q_ltF, q_leT, q_leF, q_eqT, q_eqF, q_inT, q_bz0, q_bz1, b_T, b_F, true_and, and_true, if_true, if_false, sI_1, sI_2, sA_1, sA_2, sA_3, u_at, t2, t3]
    exact Or.inr hR
  · simp (disch := omega) only [f_N_tape, f_N_tape_31, f_E_append, f_R_tape, f_R_tape_17, f_R_tape_40, lawT, lawE, f_R_thrown, f_R_fails, f_R_fails_10, f_R_within, f_N_isWithin, f_N_require, f_N_requireRoom, uL, false_implies, true_implies, implies_true, or_false, false_or, and_self, or_true, true_or, if_true, if_false, nm, q_lit, q_add, q_sub, q_subN, q_n1, q_mul, q_div, q_nm, q_and, q_or, q_xor, q_shr, q_shl, q_cl, q_a1, q_a3, q_a7, q_a31, q_a63, q_a255, q_a15, q_a16, q_a17, q_a2, q_a4, q_a8, q_a1024, q_a65536, Nat.reduceMod, Nat.reducePow, Nat.reduceDiv, Nat.reduceMul, Nat.reduceAdd, Nat.reduceSub, Nat.reduceEqDiff, q_ltT, q_ltF, q_leT, q_leF, q_eqT, q_eqF, q_inT, q_bz0, q_bz1, b_T, b_F, true_and, and_true, if_true, if_false, sI_1, sI_2, sA_1, sA_2, sA_3, u_at, t1, t2, t3, nar_c (show a < 65536 by omega)]
    refine ⟨hm, hg, hp, hl, hi, hd, ⟨h, w + 1, hh, by omega, t1, rfl, rfl, fun i hi => ?_⟩, hr⟩
    show upd (σ.2.1 5) ((h + w) % 500) (nI a) ((h + i) % 500) = upd (τ.2.1 7) w (nI a) i ∧ W16 (upd (τ.2.1 7) w (nI a) i)
    rw [u_at, u_at]
    by_cases e : i = w
    · subst e
      rw [if_pos rfl, if_pos rfl]
      exact ⟨rfl, W16.mk (by omega)⟩
    · rw [if_neg (by omega), if_neg e]
      exact t4 i (by omega)
theorem pt_printed (j : Nat) : PT_printed (RelJ j) (RelJ (j + 1)) := by
  intro σ τ x1 hR
  have hR := RelJ_mono j σ τ hR
  obtain ⟨hm, hg, hp, hl, hi, hd, ht, ⟨c, hc, p1, p2, p3⟩, hr⟩ := id hR
  have p4 : σ.1 19 = τ.1 10 := p1.trans p2.symm
  by_cases h1 : x1 < nI 0
  · simp (disch := omega) only [f_N_printed, f_P_characterAt, f_R_printed, lawT, lawE, f_R_thrown, f_R_fails, f_R_fails_10, f_R_within, f_N_isWithin, f_N_require, f_N_requireRoom, uL, false_implies, true_implies, implies_true, or_false, false_or, and_self, or_true, true_or, if_true, if_false, nm, q_lit, q_add, q_sub, q_subN, q_n1, q_mul, q_div, q_nm, q_and, q_or, q_xor, q_shr, q_shl, q_cl, q_a1, q_a3, q_a7, q_a31, q_a63, q_a255, q_a15, q_a16, q_a17, q_a2, q_a4, q_a8, q_a1024, q_a65536, Nat.reduceMod, Nat.reducePow, Nat.reduceDiv, Nat.reduceMul, Nat.reduceAdd, Nat.reduceSub, Nat.reduceEqDiff, q_ltT, q_ltF, q_leT, q_leF, q_eqT, q_eqF, q_inT, q_bz0, q_bz1, b_T, b_F, true_and, and_true, if_true, if_false, sI_1, sI_2, sA_1, sA_2, sA_3, u_at, h1]; exact hR
  by_cases h2 : τ.1 10 ≤ x1
  · simp (disch := omega) only [f_N_printed, f_P_characterAt, f_R_printed, lawT, lawE, f_R_thrown, f_R_fails, f_R_fails_10, f_R_within, f_N_isWithin, f_N_require, f_N_requireRoom, uL, false_implies, true_implies, implies_true, or_false, false_or, and_self, or_true, true_or, if_true, if_false, nm, q_lit, q_add, q_sub, q_subN, q_n1, q_mul, q_div, q_nm, q_and, q_or, q_xor, q_shr, q_shl, q_cl, q_a1, q_a3, q_a7, q_a31, q_a63, q_a255, q_a15, q_a16, q_a17, q_a2, q_a4, q_a8, q_a1024, q_a65536, Nat.reduceMod, Nat.reducePow, Nat.reduceDiv, Nat.reduceMul, Nat.reduceAdd, Nat.reduceSub, Nat.reduceEqDiff, q_ltT, q_ltF, q_leT, q_leF, q_eqT, q_eqF, q_inT, q_bz0, q_bz1, b_T, b_F, true_and, and_true, if_true, if_false, sI_1, sI_2, sA_1, sA_2, sA_3, u_at, h1, h2, p4]; exact hR
  by_cases h3 : nI 1000 ≤ x1
  · simp (disch := omega) only [f_N_printed, f_P_characterAt, f_R_printed, lawT, lawE, f_R_thrown, f_R_fails, f_R_fails_10, f_R_within, f_N_isWithin, f_N_require, f_N_requireRoom, uL, false_implies, true_implies, implies_true, or_false, false_or, and_self, or_true, true_or, if_true, if_false, nm, q_lit, q_add, q_sub, q_subN, q_n1, q_mul, q_div, q_nm, q_and, q_or, q_xor, q_shr, q_shl, q_cl, q_a1, q_a3, q_a7, q_a31, q_a63, q_a255, q_a15, q_a16, q_a17, q_a2, q_a4, q_a8, q_a1024, q_a65536, Nat.reduceMod, Nat.reducePow, Nat.reduceDiv, Nat.reduceMul, Nat.reduceAdd, Nat.reduceSub, Nat.reduceEqDiff, q_ltT, q_ltF, q_leT, q_leF, q_eqT, q_eqF, q_inT, q_bz0, q_bz1, b_T, b_F, true_and, and_true, if_true, if_false, sI_1, sI_2, sA_1, sA_2, sA_3, u_at, h1, h2, h3, p4]; exact hR
  obtain ⟨a, ha, rfl⟩ := nI_of h1
  rw [q_le (by omega) (by omega)] at h3
  simp (disch := omega) only [f_N_printed, f_P_characterAt, f_R_printed, lawT, lawE, f_R_thrown, f_R_fails, f_R_fails_10, f_R_within, f_N_isWithin, f_N_require, f_N_requireRoom, uL, false_implies, true_implies, implies_true, or_false, false_or, and_self, or_true, true_or, if_true, if_false, nm, q_lit, q_add, q_sub, q_subN, q_n1, q_mul, q_div, q_nm, q_and, q_or, q_xor, q_shr, q_shl, q_cl, q_a1, q_a3, q_a7, q_a31, q_a63, q_a255, q_a15, q_a16, q_a17, q_a2, q_a4, q_a8, q_a1024, q_a65536, Nat.reduceMod, Nat.reducePow, Nat.reduceDiv, Nat.reduceMul, Nat.reduceAdd, Nat.reduceSub, Nat.reduceEqDiff, q_ltT, q_ltF, q_leT, q_leF, q_eqT, q_eqF, q_inT, q_bz0, q_bz1, b_T, b_F, true_and, and_true, if_true, if_false, sI_1, sI_2, sA_1, sA_2, sA_3, u_at, h2, p4]
  exact ⟨by rw [p3], hR⟩
theorem pt_tear (j : Nat) : PT_tear (RelJ j) (RelJ (j + 1)) := by
  intro σ τ hR
  have hR := RelJ_mono j σ τ hR
  obtain ⟨hm, hg, hp, hl, hi, hd, ht, ⟨c, hc, p1, p2, p3⟩, hr⟩ := hR
  exact ⟨p1.trans p2.symm, hm, hg, hp, hl, hi, hd, ht, ⟨0, by omega, rfl, rfl, p3⟩, hr⟩
theorem pt_end (j : Nat) : PT_end (RelJ j) (RelJ (j + 1)) := by
  intro σ τ g x1 hR
  have hR := RelJ_mono j σ τ hR
  obtain ⟨hm, hg, hp, hl, hi, hd, ht, hpp, ⟨n, hn, x2, x3, x4⟩, hr⟩ := id hR
  by_cases h1 : x1 < nI 0
  · simp (disch := omega) only [f_N_end, f_R_end, f_R_end_18, lawT, lawE, f_R_thrown, f_R_fails, f_R_fails_10, f_R_within, f_N_isWithin, f_N_require, f_N_requireRoom, uL, false_implies, true_implies, implies_true, or_false, false_or, and_self, or_true, true_or, if_true, if_false, nm, q_lit, q_add, q_sub, q_subN, q_n1, q_mul, q_div, q_nm, q_and, q_or, q_xor, q_shr, q_shl, q_cl, q_a1, q_a3, q_a7, q_a31, q_a63, q_a255, q_a15, q_a16, q_a17, q_a2, q_a4, q_a8, q_a1024, q_a65536, Nat.reduceMod, Nat.reducePow, Nat.reduceDiv, Nat.reduceMul, Nat.reduceAdd, Nat.reduceSub, Nat.reduceEqDiff, q_ltT, q_ltF, q_leT, q_leF, q_eqT, q_eqF, q_inT, q_bz0, q_bz1, b_T, b_F, true_and, and_true, if_true, if_false, sI_1, sI_2, sA_1, sA_2, sA_3, u_at, h1]; exact hR
  obtain ⟨a, ha, rfl⟩ := nI_of h1
  by_cases h2 : n < a
  · simp (disch := omega) only [f_N_end, f_R_end, f_R_end_18, lawT, lawE, f_R_thrown, f_R_fails, f_R_fails_10, f_R_within, f_N_isWithin, f_N_require, f_N_requireRoom, uL, false_implies, true_implies, implies_true, or_false, false_or, and_self, or_true, true_or, if_true, if_false, nm, q_lit, q_add, q_sub, q_subN, q_n1, q_mul, q_div, q_nm, q_and, q_or, q_xor, q_shr, q_shl, q_cl, q_a1, q_a3, q_a7, q_a31, q_a63, q_a255, q_a15, q_a16, q_a17, q_a2, q_a4, q_a8, q_a1024, q_a65536, Nat.reduceMod, Nat.reducePow, Nat.reduceDiv, Nat.reduceMul, Nat.reduceAdd, Nat.reduceSub, Nat.reduceEqDiff, q_ltT, q_ltF, q_leT, q_leF, q_eqT, q_eqF, q_inT, q_bz0, q_bz1, b_T, b_F, true_and, and_true, if_true, if_false, sI_1, sI_2, sA_1, sA_2, sA_3, u_at, x2, x3]; exact hR
  · simp (disch := omega) only [f_N_end, f_R_end, f_R_end_18, lawT, lawE, f_R_thrown, f_R_fails, f_R_fails_10, f_R_within, f_N_isWithin, f_N_require, f_N_requireRoom, uL, false_implies, true_implies, implies_true, or_false, false_or, and_self, or_true, true_or, if_true, if_false, nm, q_lit, q_add, q_sub, q_subN, q_n1, q_mul, q_div, q_nm, q_and, q_or, q_xor, q_shr, q_shl, q_cl, q_a1, q_a3, q_a7, q_a31, q_a63, q_a255, q_a15, q_a16, q_a17, q_a2, q_a4, q_a8, q_a1024, q_a65536, Nat.reduceMod, Nat.reducePow, Nat.reduceDiv, Nat.reduceMul, Nat.reduceAdd, Nat.reduceSub, Nat.reduceEqDiff, q_ltT, q_ltF, q_leT, q_leF, q_eqT, q_eqF, q_inT, q_bz0, q_bz1, b_T, b_F, true_and, and_true, if_true, if_false, sI_1, sI_2, sA_1, sA_2, sA_3, u_at, x2, x3]
    exact ⟨hm, hg, hp, hl, hi, hd, ht, hpp, ⟨a, by omega, rfl, rfl, fun i hi => x4 i (by omega)⟩, hr⟩
theorem pt_told (j : Nat) : PT_told (RelJ j) (RelJ (j + 1)) := by
  intro σ τ x1 hR
  have hR := RelJ_mono j σ τ hR
  obtain ⟨_, _, _, _, _, _, _, _, _, _, _, ⟨t, ht, t1, t2, t3⟩⟩ := id hR
  by_cases h1 : x1 < nI 0
  · simp (disch := omega) only [f_N_told, f_T_characterAt, f_R_told, lawT, lawE, f_R_thrown, f_R_fails, f_R_fails_10, f_R_within, f_N_isWithin, f_N_require, f_N_requireRoom, uL, false_implies, true_implies, implies_true, or_false, false_or, and_self, or_true, true_or, if_true, if_false, nm, q_lit, q_add, q_sub, q_subN, q_n1, q_mul, q_div, q_nm, q_and, q_or, q_xor, q_shr, q_shl, q_cl, q_a1, q_a3, q_a7, q_a31, q_a63, q_a255, q_a15, q_a16, q_a17, q_a2, q_a4, q_a8, q_a1024, q_a65536, Nat.reduceMod, Nat.reducePow, Nat.reduceDiv, Nat.reduceMul, Nat.reduceAdd, Nat.reduceSub, Nat.reduceEqDiff, q_ltT, q_ltF, q_leT, q_leF, q_eqT, q_eqF, q_inT, q_bz0, q_bz1, b_T, b_F, true_and, and_true, if_true, if_false, sI_1, sI_2, sA_1, sA_2, sA_3, u_at, h1]; exact hR
  obtain ⟨a, ha, rfl⟩ := nI_of h1
  by_cases h2 : t ≤ a
  · simp (disch := omega) only [f_N_told, f_T_characterAt, f_R_told, lawT, lawE, f_R_thrown, f_R_fails, f_R_fails_10, f_R_within, f_N_isWithin, f_N_require, f_N_requireRoom, uL, false_implies, true_implies, implies_true, or_false, false_or, and_self, or_true, true_or, if_true, if_false, nm, q_lit, q_add, q_sub, q_subN, q_n1, q_mul, q_div, q_nm, q_and, q_or, q_xor, q_shr, q_shl, q_cl, q_a1, q_a3, q_a7, q_a31, q_a63, q_a255, q_a15, q_a16, q_a17, q_a2, q_a4, q_a8, q_a1024, q_a65536, Nat.reduceMod, Nat.reducePow, Nat.reduceDiv, Nat.reduceMul, Nat.reduceAdd, Nat.reduceSub, Nat.reduceEqDiff, q_ltT, q_ltF, q_leT, q_leF, q_eqT, q_eqF, q_inT, q_bz0, q_bz1, b_T, b_F, true_and, and_true, if_true, if_false, sI_1, sI_2, sA_1, sA_2, sA_3, u_at, t1, t2]; exact hR
  · simp (disch := omega) only [f_N_told, f_T_characterAt, f_R_told, lawT, lawE, f_R_thrown, f_R_fails, f_R_fails_10, f_R_within, f_N_isWithin, f_N_require, f_N_requireRoom, uL, false_implies, true_implies, implies_true, or_false, false_or, and_self, or_true, true_or, if_true, if_false, nm, q_lit, q_add, q_sub, q_subN, q_n1, q_mul, q_div, q_nm, q_and, q_or, q_xor, q_shr, q_shl, q_cl, q_a1, q_a3, q_a7, q_a31, q_a63, q_a255, q_a15, q_a16, q_a17, q_a2, q_a4, q_a8, q_a1024, q_a65536, Nat.reduceMod, Nat.reducePow, Nat.reduceDiv, Nat.reduceMul, Nat.reduceAdd, Nat.reduceSub, Nat.reduceEqDiff, q_ltT, q_ltF, q_leT, q_leF, q_eqT, q_eqF, q_inT, q_bz0, q_bz1, b_T, b_F, true_and, and_true, if_true, if_false, sI_1, sI_2, sA_1, sA_2, sA_3, u_at, t1, t2]
    exact ⟨t3 a (by omega), hR⟩
theorem RelB_fr {B : Nat} {σ τ u v : SS} (h : RelB B σ τ) (hc : FrC σ u) (hr : FrR τ v) {B' : Nat} (hm : RMc B' u v) : RelB B' u v := by
  obtain ⟨_, _, _, _, _, _, _, _, ⟨n, hn, x2, x3, x4⟩, ⟨f1, f2⟩, hk, ⟨t, ht, t1, t2, t3⟩⟩ := h
  obtain ⟨⟨g1, g2, g3, g4, g5⟩, g6, g7, g8⟩ := hm
  obtain ⟨c1, c2, c3⟩ := hc
  obtain ⟨r1, r2, r3⟩ := hr
  refine ⟨g1, g2, g6, g7, g8, g3, g4, g5, ⟨n, hn, ?_, ?_, ?_⟩, ⟨?_, ?_⟩, ?_, ⟨t, ht, ?_, ?_, ?_⟩⟩
  · rw [c1 34 (by omega)]; exact x2
  · rw [r1 12 (by omega)]; exact x3
  · rw [c2 12 (by omega), r2 9 (by omega)]; exact x4
  · rw [c1 32 (by omega), r1 13 (by omega)]; exact f1
  · rw [c1 33 (by omega), r1 14 (by omega)]; exact f2
  · unfold RKept at hk ⊢
    rw [c1 24 (by omega), c1 25 (by omega), c1 37 (by omega), c1 38 (by omega), c2 16 (by omega), c2 19 (by omega), c3, r1 17 (by omega), r2 13 (by omega), r3]
    exact hk
  · rw [c1 39 (by omega)]; exact t1
  · rw [r1 28 (by omega)]; exact t2
  · rw [c2 24 (by omega), r2 18 (by omega)]; exact t3
theorem pt_run (j : Nat) (hj : j < 512) : PT_run (RelJ j) (RelJ (j + 1)) := by
  intro σ τ g x1 hR
  have hR1 := RelJ_mono j σ τ hR
  by_cases h1 : x1 < nI 1
  · simp (disch := omega) only [f_N_run, f_N_run_17, f_R_run, f_R_run_17, lawT, lawE, f_R_thrown, f_R_fails, f_R_fails_10, f_R_within, f_N_isWithin, f_N_require, f_N_requireRoom, uL, false_implies, true_implies, implies_true, or_false, false_or, and_self, or_true, true_or, if_true, if_false, nm, q_lit, q_add, q_sub, q_subN, q_n1, q_mul, q_div, q_nm, q_and, q_or, q_xor, q_shr, q_shl, q_cl, q_a1, q_a3, q_a7, q_a31, q_a63, q_a255, q_a15, q_a16, q_a17, q_a2, q_a4, q_a8, q_a1024, q_a65536, Nat.reduceMod, Nat.reducePow, Nat.reduceDiv, Nat.reduceMul, Nat.reduceAdd, Nat.reduceSub, Nat.reduceEqDiff, q_ltT, q_ltF, q_leT, q_leF, q_eqT, q_eqF, q_inT, q_bz0, q_bz1, b_T, b_F, true_and, and_true, if_true, if_false, sI_1, sI_2, sA_1, sA_2, sA_3, u_at, h1]; exact hR1
  by_cases h2 : nI 5000 < x1
  · simp (disch := omega) only [f_N_run, f_N_run_17, f_R_run, f_R_run_17, lawT, lawE, f_R_thrown, f_R_fails, f_R_fails_10, f_R_within, f_N_isWithin, f_N_require, f_N_requireRoom, uL, false_implies, true_implies, implies_true, or_false, false_or, and_self, or_true, true_or, if_true, if_false, nm, q_lit, q_add, q_sub, q_subN, q_n1, q_mul, q_div, q_nm, q_and, q_or, q_xor, q_shr, q_shl, q_cl, q_a1, q_a3, q_a7, q_a31, q_a63, q_a255, q_a15, q_a16, q_a17, q_a2, q_a4, q_a8, q_a1024, q_a65536, Nat.reduceMod, Nat.reducePow, Nat.reduceDiv, Nat.reduceMul, Nat.reduceAdd, Nat.reduceSub, Nat.reduceEqDiff, q_ltT, q_ltF, q_leT, q_leF, q_eqT, q_eqF, q_inT, q_bz0, q_bz1, b_T, b_F, true_and, and_true, if_true, if_false, sI_1, sI_2, sA_1, sA_2, sA_3, u_at, h1, h2]; exact hR1
  have h10 : ¬ x1 < nI 0 := by
    intro z
    apply h1
    rw [Int32.lt_iff_toInt_lt] at z ⊢
    have e1 : (nI 0).toInt = 0 := by decide
    have e2 : (nI 1).toInt = 1 := by decide
    omega
  obtain ⟨N, hN, rfl⟩ := c0_31 h10 (by omega) h2
  rw [q_lt (by omega) (by omega)] at h1
  have hm : RMc (5000 * j) (sI σ 8 (nI 0)) (sI (sI (sI τ 29 (nI 0)) 11 (nI 0)) 8 (nI 0)) := by
    obtain ⟨g1, ⟨a1, a2, a3, a4, a5, a6, a7, a8, a9, a10⟩, g3, g4, g5, g6, g7, g8, _⟩ := hR
    exact ⟨⟨g1, ⟨a1, a2, a3, a4, a5, a6, a7, a8, a9, rfl⟩, g6, g7, g8⟩, g3, g4, g5⟩
  obtain ⟨u, v, j', c1, c2, c3, c4, c5, c6⟩ := s_run (N := N) (by omega) ((sI σ 8 (nI 0)).1 6) N _ _ 0 0 (5000 * j) (by omega) (by omega) hm (fun _ => ⟨rfl, rfl⟩) (by omega) (by show σ.1 6 = σ.1 6 + nI 0; exact (Int32.add_zero _).symm)
  simp (disch := omega) only [f_N_run, f_N_run_17, f_R_run, f_R_run_17, f_M_runUpTo, lawT, lawE, f_R_thrown, f_R_fails, f_R_fails_10, f_R_within, f_N_isWithin, f_N_require, f_N_requireRoom, uL, false_implies, true_implies, implies_true, or_false, false_or, and_self, or_true, true_or, if_true, if_false, nm, q_lit, q_add, q_sub, q_subN, q_n1, q_mul, q_div, q_nm, q_and, q_or, q_xor, q_shr, q_shl, q_cl, q_a1, q_a3, q_a7, q_a31, q_a63, q_a255, q_a15, q_a16, q_a17, q_a2, q_a4, q_a8, q_a1024, q_a65536, Nat.reduceMod, Nat.reducePow, Nat.reduceDiv, Nat.reduceMul, Nat.reduceAdd, Nat.reduceSub, Nat.reduceEqDiff, q_ltT, q_ltF, q_leT, q_leF, q_eqT, q_eqF, q_inT, q_bz0, q_bz1, b_T, b_F, true_and, and_true, if_true, if_false, sI_1, sI_2, sA_1, sA_2, sA_3, u_at]
  refine ⟨_, c1 _ ?_⟩
  refine ⟨_, c2 _ ?_⟩
  have e29 : v.1 29 = nI 0 := by rw [c6.1 29 (by omega)]; rfl
  have hfin : RelJ (j + 1) u v := by
    have hh : RelB (5000 * j) σ (sI τ 29 (nI 0)) := hR
    refine RelB_mono (B := 5000 * j + N) (by omega) (RelB_fr hh ?_ ?_ c4)
    · exact ((FrC.refl σ).sI (by omega) _).trans c5
    · exact (((FrR.refl (sI τ 29 (nI 0))).sI (by omega) _).sI (by omega) _).trans c6
  refine ⟨e29, ?_, hfin⟩
  rw [c3]
  congr 1
  show (sI σ 8 (nI 0)).1 6 + nI j' - (sI σ 8 (nI 0)).1 6 = nI j'
  rw [Int32.add_comm, Int32.add_sub_cancel]
theorem c_Mclear {σ : SS} {post : SS → Prop} (h : post (sI (sI (sI (sI (sI (sI (sI (sI (sI (sI (sI (sI (sI (sI (sI (sI (sI (sI (sI (sI (sI (sI (sI (sA (sA (sA (sA σ 3 0 (nI 0)) 3 1 (nI 0)) 3 2 (nI 0)) 3 3 (nI 0)) 10 (nI 0)) 11 (nI 0)) 9 (nI 0)) 12 (nI 0)) 14 (nI 0)) 16 (nI 0)) 17 (nI 0)) 15 (nI 0)) 18 (nI 0)) 19 (nI 0)) 21 (nI 0)) 22 (nI 0)) 20 (nI 0)) 23 (nI 0)) 0 (nI 0)) 1 (nI 0)) 2 (nI 0)) 3 (nI 0)) 4 (nI 0)) 5 (nI 0)) 6 (nI 0)) 7 (nI 0)) 8 (nI 0))) : f_M_clear post σ := by
  refine ⟨5, ?_⟩
  simp (disch := omega) only [f_M_clear_2, nm, q_lit, q_add, q_sub, q_subN, q_n1, q_mul, q_div, q_nm, q_and, q_or, q_xor, q_shr, q_shl, q_cl, q_a1, q_a3, q_a7, q_a31, q_a63, q_a255, q_a15, q_a16, q_a17, q_a2, q_a4, q_a8, q_a1024, q_a65536, Nat.reduceMod, Nat.reducePow, Nat.reduceDiv, Nat.reduceMul, Nat.reduceAdd, Nat.reduceSub, Nat.reduceEqDiff, q_ltT, q_ltF, q_leT, q_leF, q_eqT, q_eqF, q_inT, q_bz0, q_bz1, b_T, b_F, true_and, and_true, if_true, if_false]
  refine ⟨4, ?_⟩
  simp (disch := omega) only [f_M_clear_26, f_E_clear, f_P_clear, f_D_clear_4, f_D_clear_6, f_D_clear_8, f_D_stop_4, f_D_stop_6, f_D_stop_8, nm, q_lit, q_add, q_sub, q_subN, q_n1, q_mul, q_div, q_nm, q_and, q_or, q_xor, q_shr, q_shl, q_cl, q_a1, q_a3, q_a7, q_a31, q_a63, q_a255, q_a15, q_a16, q_a17, q_a2, q_a4, q_a8, q_a1024, q_a65536, Nat.reduceMod, Nat.reducePow, Nat.reduceDiv, Nat.reduceMul, Nat.reduceAdd, Nat.reduceSub, Nat.reduceEqDiff, q_ltT, q_ltF, q_leT, q_leF, q_eqT, q_eqF, q_inT, q_bz0, q_bz1, b_T, b_F, true_and, and_true, if_true, if_false]
  exact h
theorem upd4_W {f : Nat → Int32} (h : ∀ j, W16 (f j)) : ∀ j, W16 (upd (upd (upd (upd f 0 (nI 0)) 1 (nI 0)) 2 (nI 0)) 3 (nI 0) j) := upd_W (upd_W (upd_W (upd_W h 0 0 (by omega)) 1 0 (by omega)) 2 0 (by omega)) 3 0 (by omega)
theorem pt_reset (j : Nat) : PT_reset (RelJ j) (RelJ (j + 1)) := by
  intro σ τ hR
  have hR := RelJ_mono j σ τ hR
  obtain ⟨⟨m1, m2, m3, m4⟩, hg, hp, hl, hi, hd, ht, ⟨c, hc, p1, p2, p3⟩, hx, hf, hk, hT⟩ := hR
  simp only [f_N_reset]
  refine c_Mclear ?_
  have fin : ∀ u v : SS, RelJ (j + 1) u v → RelJ (j + 1) u v := fun _ _ h => h
  have z0 : ∀ k : Nat, (0 : Int32) = nI 0 := fun _ => rfl
  have core : ∀ u : SS, (u.2.1 2 = σ.2.1 2 ∧ u.2.1 3 = upd (upd (upd (upd (σ.2.1 3) 0 (nI 0)) 1 (nI 0)) 2 (nI 0)) 3 (nI 0) ∧ u.2.1 7 = σ.2.1 7) → (∀ k, k < 24 → k ≠ 13 → u.1 k = nI 0) → u.1 13 = σ.1 13 → u.1 34 = nI 0 → u.1 32 = nI 0 → u.1 33 = nI 0 → ((u.1 24 = 0 ∧ u.1 25 = 1 ∧ u.1 37 = nI 0) ∨ (u.1 24 = 1 ∧ u.1 25 = 0 ∧ u.1 38 = nI 0)) → u.1 39 = nI 0 → f_R_reset (fun v => RelJ (j + 1) u v) τ := by
    intro u ⟨a1, a2, a3⟩ a4 a5 a6 a7 a8 a9 a10
    simp only [f_R_reset, nm]
    refine ⟨5, ?_⟩
    simp (disch := omega) only [f_R_reset_7, nm, q_lit, q_add, q_sub, q_subN, q_n1, q_mul, q_div, q_nm, q_and, q_or, q_xor, q_shr, q_shl, q_cl, q_a1, q_a3, q_a7, q_a31, q_a63, q_a255, q_a15, q_a16, q_a17, q_a2, q_a4, q_a8, q_a1024, q_a65536, Nat.reduceMod, Nat.reducePow, Nat.reduceDiv, Nat.reduceMul, Nat.reduceAdd, Nat.reduceSub, Nat.reduceEqDiff, q_ltT, q_ltF, q_leT, q_leF, q_eqT, q_eqF, q_inT, q_bz0, q_bz1, b_T, b_F, true_and, and_true, if_true, if_false]
    refine ⟨4, ?_⟩
    simp (disch := omega) only [f_R_reset_67, nm, q_lit, q_add, q_sub, q_subN, q_n1, q_mul, q_div, q_nm, q_and, q_or, q_xor, q_shr, q_shl, q_cl, q_a1, q_a3, q_a7, q_a31, q_a63, q_a255, q_a15, q_a16, q_a17, q_a2, q_a4, q_a8, q_a1024, q_a65536, Nat.reduceMod, Nat.reducePow, Nat.reduceDiv, Nat.reduceMul, Nat.reduceAdd, Nat.reduceSub, Nat.reduceEqDiff, q_ltT, q_ltF, q_leT, q_leF, q_eqT, q_eqF, q_inT, q_bz0, q_bz1, b_T, b_F, true_and, and_true, if_true, if_false, nar0]
    obtain ⟨hd', w, hhd, hw, t1, t2, t3, t4⟩ := ht
    refine ⟨⟨a1.trans m1, ?_, ?_, ?_⟩, ⟨a4 0 (by omega) (by omega), ?_, a4 2 (by omega) (by omega), ?_, a4 3 (by omega) (by omega), ?_, a4 4 (by omega) (by omega), ?_, a4 7 (by omega) (by omega), a4 8 (by omega) (by omega)⟩, ⟨a4 1 (by omega) (by omega), 0, by omega, a4 1 (by omega) (by omega)⟩, ⟨a4 5 (by omega) (by omega), ?_⟩, a4 6 (by omega) (by omega), ⟨⟨a4 9 (by omega) (by omega), ?_, a4 10 (by omega) (by omega), ?_, a4 11 (by omega) (by omega), ?_, ?_⟩, ⟨a4 15 (by omega) (by omega), ?_, a4 16 (by omega) (by omega), ?_, a4 17 (by omega) (by omega), ?_, ?_⟩, ⟨a4 20 (by omega) (by omega), ?_, a4 21 (by omega) (by omega), ?_, a4 22 (by omega) (by omega), ?_, ?_⟩⟩, ⟨hd', 0, hhd, by omega, a5.trans t1, a4 14 (by omega) (by omega), rfl, fun i hi => absurd hi (by omega)⟩, ⟨0, by omega, a4 19 (by omega) (by omega), rfl, a3.trans p3⟩, ⟨0, by omega, a6, rfl, fun i hi => absurd hi (by omega)⟩, ⟨a7, a8⟩, ?_, ⟨0, by omega, a10, rfl, fun i hi => absurd hi (by omega)⟩⟩
    · rw [a1]; exact m2
    · show u.2.1 3 = upd (upd (upd (upd (τ.2.1 2) 0 (nI 0)) 1 (nI 0)) 2 (nI 0)) 3 (nI 0)
      rw [a2, m3]
    · rw [a2]; exact upd4_W m4
    · rw [a4 0 (by omega) (by omega)]; exact bz_of (by omega)
    · rw [a4 2 (by omega) (by omega)]; exact W16.mk (by omega)
    · exact ⟨0, by omega, a4 3 (by omega) (by omega)⟩
    · rw [a4 4 (by omega) (by omega)]; exact bz_of (by omega)
    · rw [a4 5 (by omega) (by omega)]; exact bz_of (by omega)
    · rw [a4 9 (by omega) (by omega)]; exact W16.mk (by omega)
    · rw [a4 10 (by omega) (by omega)]; exact bz_of (by omega)
    · rw [a4 11 (by omega) (by omega)]; exact bz_of (by omega)
    · intro z; exact absurd (a4 10 (by omega) (by omega)) z
    · rw [a4 15 (by omega) (by omega)]; exact W16.mk (by omega)
    · rw [a4 16 (by omega) (by omega)]; exact bz_of (by omega)
    · rw [a4 17 (by omega) (by omega)]; exact bz_of (by omega)
    · intro z; exact absurd (a4 16 (by omega) (by omega)) z
    · rw [a4 20 (by omega) (by omega)]; exact W16.mk (by omega)
    · rw [a4 21 (by omega) (by omega)]; exact bz_of (by omega)
    · rw [a4 22 (by omega) (by omega)]; exact bz_of (by omega)
    · intro z; exact absurd (a4 21 (by omega) (by omega)) z
    · rcases a9 with ⟨b1, b2, b3⟩ | ⟨b1, b2, b3⟩
      · exact Or.inl ⟨b1, b2, 0, by omega, b3, rfl, fun i hi => absurd hi (by omega)⟩
      · exact Or.inr ⟨b1, b2, 0, by omega, b3, rfl, fun i hi => absurd hi (by omega)⟩
  have k24 : ∀ k : Nat, k < 24 → k = 0 ∨ k = 1 ∨ k = 2 ∨ k = 3 ∨ k = 4 ∨ k = 5 ∨ k = 6 ∨ k = 7 ∨ k = 8 ∨ k = 9 ∨ k = 10 ∨ k = 11 ∨ k = 12 ∨ k = 13 ∨ k = 14 ∨ k = 15 ∨ k = 16 ∨ k = 17 ∨ k = 18 ∨ k = 19 ∨ k = 20 ∨ k = 21 ∨ k = 22 ∨ k = 23 := by omega
  rcases hk with ⟨b1, b2, b3⟩ | ⟨b1, b2, b3⟩
  · have b1' : σ.1 24 = nI 0 := b1
    simp (disch := omega) only [f_A_clear, f_L_clear_14, f_L_clear_17, f_T_clear, nm, q_lit, q_add, q_sub, q_subN, q_n1, q_mul, q_div, q_nm, q_and, q_or, q_xor, q_shr, q_shl, q_cl, q_a1, q_a3, q_a7, q_a31, q_a63, q_a255, q_a15, q_a16, q_a17, q_a2, q_a4, q_a8, q_a1024, q_a65536, Nat.reduceMod, Nat.reducePow, Nat.reduceDiv, Nat.reduceMul, Nat.reduceAdd, Nat.reduceSub, Nat.reduceEqDiff, q_ltT, q_ltF, q_leT, q_leF, q_eqT, q_eqF, q_inT, q_bz0, q_bz1, b_T, b_F, true_and, and_true, if_true, if_false, sI_1, sI_2, sA_1, sA_2, sA_3, u_at, b1']
    refine core _ ⟨rfl, rfl, rfl⟩ (fun k hk hn => ?_) rfl rfl rfl rfl (Or.inl ⟨b1, b2, rfl⟩) rfl
    rcases k24 k hk with rfl | rfl | rfl | rfl | rfl | rfl | rfl | rfl | rfl | rfl | rfl | rfl | rfl | rfl | rfl | rfl | rfl | rfl | rfl | rfl | rfl | rfl | rfl | rfl
    all_goals first | rfl | exact absurd rfl hn
  · have b1' : σ.1 24 = nI 1 := b1
    simp (disch := omega) only [f_A_clear, f_L_clear_14, f_L_clear_17, f_T_clear, nm, q_lit, q_add, q_sub, q_subN, q_n1, q_mul, q_div, q_nm, q_and, q_or, q_xor, q_shr, q_shl, q_cl, q_a1, q_a3, q_a7, q_a31, q_a63, q_a255, q_a15, q_a16, q_a17, q_a2, q_a4, q_a8, q_a1024, q_a65536, Nat.reduceMod, Nat.reducePow, Nat.reduceDiv, Nat.reduceMul, Nat.reduceAdd, Nat.reduceSub, Nat.reduceEqDiff, q_ltT, q_ltF, q_leT, q_leF, q_eqT, q_eqF, q_inT, q_bz0, q_bz1, b_T, b_F, true_and, and_true, if_true, if_false, sI_1, sI_2, sA_1, sA_2, sA_3, u_at, b1']
    refine core _ ⟨rfl, rfl, rfl⟩ (fun k hk hn => ?_) rfl rfl rfl rfl (Or.inr ⟨b1, b2, rfl⟩) rfl
    rcases k24 k hk with rfl | rfl | rfl | rfl | rfl | rfl | rfl | rfl | rfl | rfl | rfl | rfl | rfl | rfl | rfl | rfl | rfl | rfl | rfl | rfl | rfl | rfl | rfl | rfl
    all_goals first | rfl | exact absurd rfl hn
