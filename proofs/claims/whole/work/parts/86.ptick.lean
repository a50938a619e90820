/-! the pure side: ticks -/
theorem nar_c {x : Nat} (h : x < 65536) : vp_nar .char (((nI x).toUInt32 % 65536).toInt32) = nI x := by
  have e0 : (UInt32.ofNat x).toNat = x := Nat.mod_eq_of_lt (by omega)
  have e1 : (nI x).toUInt32 % 65536 = UInt32.ofNat x := by
    apply UInt32.toNat_inj.1
    rw [UInt32.toNat_mod]
    show (UInt32.ofNat x).toNat % 65536 = (UInt32.ofNat x).toNat
    rw [e0]
    omega
  have e2 : (UInt32.ofNat x).toUInt16.toUInt32 = UInt32.ofNat x := by
    apply UInt32.toNat_inj.1
    rw [UInt16.toNat_toUInt32, UInt32.toNat_toUInt16, e0]
    omega
  rw [e1]
  exact congrArg UInt32.toInt32 e2
theorem r_shift {post : SS → Prop} {k2 : SS → Int32 → Prop} {x1 : Int32} {W : Nat} (hW : W < 500) (k : Nat) : ∀ (τ : SS) (i : Nat), τ.1 9 = nI W → i + k = W → f_R_tick_119 post k2 (setM τ 7 (fun j => if i ≤ j ∧ j < W then τ.2.1 7 (j + 1) else τ.2.1 7 j)) x1 → f_R_tick_91 post k2 (k + 1) τ x1 (nI i) := by
  induction k with
  | zero =>
    intro τ i h9 hi h
    have e : (fun j => if i ≤ j ∧ j < W then τ.2.1 7 (j + 1) else τ.2.1 7 j) = τ.2.1 7 := by
      funext j
      rw [if_neg (by omega)]
    rw [e, setM_self] at h
    simp (disch := omega) only [f_R_tick_91, nm, q_lit, q_add, q_sub, q_subN, q_n1, q_mul, q_div, q_nm, q_and, q_or, q_xor, q_shr, q_shl, q_cl, q_a1, q_a3, q_a7, q_a31, q_a63, q_a255, q_a15, q_a16, q_a17, q_a2, q_a4, q_a8, q_a1024, q_a65536, Nat.reduceMod, Nat.reducePow, Nat.reduceDiv, Nat.reduceMul, Nat.reduceAdd, Nat.reduceSub, Nat.reduceEqDiff, q_ltT, q_ltF, q_leT, q_leF, q_eqT, q_eqF, q_inT, q_bz0, q_bz1, b_T, b_F, true_and, and_true, if_true, if_false, h9]
    exact h
  | succ k ih =>
    intro τ i h9 hi h
    rw [f_R_tick_91]
    simp (disch := omega) only [nm, q_lit, q_add, q_sub, q_subN, q_n1, q_mul, q_div, q_nm, q_and, q_or, q_xor, q_shr, q_shl, q_cl, q_a1, q_a3, q_a7, q_a31, q_a63, q_a255, q_a15, q_a16, q_a17, q_a2, q_a4, q_a8, q_a1024, q_a65536, Nat.reduceMod, Nat.reducePow, Nat.reduceDiv, Nat.reduceMul, Nat.reduceAdd, Nat.reduceSub, Nat.reduceEqDiff, q_ltT, q_ltF, q_leT, q_leF, q_eqT, q_eqF, q_inT, q_bz0, q_bz1, b_T, b_F, true_and, and_true, if_true, if_false, h9]
    refine ih (sA τ 7 i (τ.2.1 7 (i + 1))) (i + 1) h9 (by omega) ?_
    have e : setM (sA τ 7 i (τ.2.1 7 (i + 1))) 7 (fun j => if i + 1 ≤ j ∧ j < W then (sA τ 7 i (τ.2.1 7 (i + 1))).2.1 7 (j + 1) else (sA τ 7 i (τ.2.1 7 (i + 1))).2.1 7 j) = setM τ 7 (fun j => if i ≤ j ∧ j < W then τ.2.1 7 (j + 1) else τ.2.1 7 j) := by
      rw [sA_M, setM_M, setM_at]
      congr 1
      funext j
      simp only [u_at]
      by_cases h1 : i + 1 ≤ j ∧ j < W
      · rw [if_pos h1, if_neg (by omega), if_pos (by omega)]
      · rw [if_neg h1]
        by_cases h2 : j = i
        · rw [if_pos h2, if_pos (by omega), h2]
        · rw [if_neg h2, if_neg (by omega)]
    rw [e]
    exact h
theorem s_tick0 {B : Nat} {σ τ : SS} (h : RM0 B σ τ) : ∃ u v, (∀ post n, f_M_doNext_77 post n u (nI 1) → f_M_doNext_77 post (n + 1) σ (nI 0)) ∧ (∀ post n, f_R_tick_2 post n v (nI 1) → f_R_tick_2 post (n + 1) τ (nI 0)) ∧ RM0 B u v ∧ Same σ τ u v ∧ v.1 4 = τ.1 4 := by
  have h0 := h
  obtain ⟨m, r, ⟨⟨e1, e2, e3, e4, e5, e6, e7⟩, d1, d2⟩, ⟨hd, w, hhd, hw, t1, t2, t3, t4⟩, hP⟩ := h0
  obtain ⟨b, hb, vb⟩ := bz_N e4
  have vb' := e3.symm.trans vb
  have hq : b = 0 ∨ b = 1 := by omega
  rcases hq with rfl | rfl
  · refine ⟨σ, τ, fun p n z => ?_, fun p n z => ?_, h, Same.refl _ _, rfl⟩
    · rw [f_M_doNext_77]; simp (disch := omega) only [f_M_doNext_107, nm, q_lit, q_add, q_sub, q_subN, q_n1, q_mul, q_div, q_nm, q_and, q_or, q_xor, q_shr, q_shl, q_cl, q_a1, q_a3, q_a7, q_a31, q_a63, q_a255, q_a15, q_a16, q_a17, q_a2, q_a4, q_a8, q_a1024, q_a65536, Nat.reduceMod, Nat.reducePow, Nat.reduceDiv, Nat.reduceMul, Nat.reduceAdd, Nat.reduceSub, Nat.reduceEqDiff, q_ltT, q_ltF, q_leT, q_leF, q_eqT, q_eqF, q_inT, q_bz0, q_bz1, b_T, b_F, true_and, and_true, if_true, if_false, vb]; exact z
    · rw [f_R_tick_2]; simp (disch := omega) only [f_R_tick_173, nm, q_lit, q_add, q_sub, q_subN, q_n1, q_mul, q_div, q_nm, q_and, q_or, q_xor, q_shr, q_shl, q_cl, q_a1, q_a3, q_a7, q_a31, q_a63, q_a255, q_a15, q_a16, q_a17, q_a2, q_a4, q_a8, q_a1024, q_a65536, Nat.reduceMod, Nat.reducePow, Nat.reduceDiv, Nat.reduceMul, Nat.reduceAdd, Nat.reduceSub, Nat.reduceEqDiff, q_ltT, q_ltF, q_leT, q_leF, q_eqT, q_eqF, q_inT, q_bz0, q_bz1, b_T, b_F, true_and, and_true, if_true, if_false, vb']; exact z
  have et : σ.1 12 = τ.2.1 6 0 := e7 (by rw [vb]; decide)
  have hmid : RM0 B (sI σ 12 (σ.1 12 + nI 1)) (sA τ 6 0 (τ.2.1 6 0 + nI 1)) := by
    refine ⟨m, r, ⟨⟨e1, e2, e3, e4, e5, e6, fun _ => ?_⟩, d1, d2⟩, ⟨hd, w, hhd, hw, t1, t2, t3, t4⟩, hP⟩
    show σ.1 12 + nI 1 = τ.2.1 6 0 + nI 1
    rw [et]
  have smid : Same σ τ (sI σ 12 (σ.1 12 + nI 1)) (sA τ 6 0 (τ.2.1 6 0 + nI 1)) := ⟨(FrC.refl _).sI (by omega) _, (FrR.refl _).sA (by omega) _ _, rfl, rfl, rfl, rfl, rfl, rfl⟩
  by_cases hlt : σ.1 12 + nI 1 < nI 4
  · have hlt' : τ.2.1 6 0 + nI 1 < nI 4 := by rw [← et]; exact hlt
    refine ⟨_, _, fun p n z => ?_, fun p n z => ?_, hmid, smid, rfl⟩
    · rw [f_M_doNext_77]; simp (disch := omega) only [f_M_doNext_107, f_D_tick_4, nm, q_lit, q_add, q_sub, q_subN, q_n1, q_mul, q_div, q_nm, q_and, q_or, q_xor, q_shr, q_shl, q_cl, q_a1, q_a3, q_a7, q_a31, q_a63, q_a255, q_a15, q_a16, q_a17, q_a2, q_a4, q_a8, q_a1024, q_a65536, Nat.reduceMod, Nat.reducePow, Nat.reduceDiv, Nat.reduceMul, Nat.reduceAdd, Nat.reduceSub, Nat.reduceEqDiff, q_ltT, q_ltF, q_leT, q_leF, q_eqT, q_eqF, q_inT, q_bz0, q_bz1, b_T, b_F, true_and, and_true, if_true, if_false, sI_1, sI_2, sA_1, sA_2, sA_3, u_at, vb, hlt]; exact z
    · rw [f_R_tick_2]; simp (disch := omega) only [f_R_tick_173, f_R_tick_46, nm, q_lit, q_add, q_sub, q_subN, q_n1, q_mul, q_div, q_nm, q_and, q_or, q_xor, q_shr, q_shl, q_cl, q_a1, q_a3, q_a7, q_a31, q_a63, q_a255, q_a15, q_a16, q_a17, q_a2, q_a4, q_a8, q_a1024, q_a65536, Nat.reduceMod, Nat.reducePow, Nat.reduceDiv, Nat.reduceMul, Nat.reduceAdd, Nat.reduceSub, Nat.reduceEqDiff, q_ltT, q_ltF, q_leT, q_leF, q_eqT, q_eqF, q_inT, q_bz0, q_bz1, b_T, b_F, true_and, and_true, if_true, if_false, sI_1, sI_2, sA_1, sA_2, sA_3, u_at, vb', hlt']; exact z
  have hlt' : ¬ τ.2.1 6 0 + nI 1 < nI 4 := by rw [← et]; exact hlt
  by_cases hw0 : w = 0
  · subst hw0
    refine ⟨_, _, fun p n z => ?_, fun p n z => ?_, hmid, smid, rfl⟩
    · rw [f_M_doNext_77]; simp (disch := omega) only [f_M_doNext_107, f_D_tick_4, f_E_work, nm, q_lit, q_add, q_sub, q_subN, q_n1, q_mul, q_div, q_nm, q_and, q_or, q_xor, q_shr, q_shl, q_cl, q_a1, q_a3, q_a7, q_a31, q_a63, q_a255, q_a15, q_a16, q_a17, q_a2, q_a4, q_a8, q_a1024, q_a65536, Nat.reduceMod, Nat.reducePow, Nat.reduceDiv, Nat.reduceMul, Nat.reduceAdd, Nat.reduceSub, Nat.reduceEqDiff, q_ltT, q_ltF, q_leT, q_leF, q_eqT, q_eqF, q_inT, q_bz0, q_bz1, b_T, b_F, true_and, and_true, if_true, if_false, sI_1, sI_2, sA_1, sA_2, sA_3, u_at, vb, hlt, t2]; exact z
    · rw [f_R_tick_2]; simp (disch := omega) only [f_R_tick_173, f_R_tick_46, nm, q_lit, q_add, q_sub, q_subN, q_n1, q_mul, q_div, q_nm, q_and, q_or, q_xor, q_shr, q_shl, q_cl, q_a1, q_a3, q_a7, q_a31, q_a63, q_a255, q_a15, q_a16, q_a17, q_a2, q_a4, q_a8, q_a1024, q_a65536, Nat.reduceMod, Nat.reducePow, Nat.reduceDiv, Nat.reduceMul, Nat.reduceAdd, Nat.reduceSub, Nat.reduceEqDiff, q_ltT, q_ltF, q_leT, q_leF, q_eqT, q_eqF, q_inT, q_bz0, q_bz1, b_T, b_F, true_and, and_true, if_true, if_false, sI_1, sI_2, sA_1, sA_2, sA_3, u_at, vb', hlt', t3]; exact z
  · obtain ⟨x0, ⟨x, hx, vx⟩⟩ := t4 0 (by omega)
    rw [Nat.add_zero, Nat.mod_eq_of_lt hhd] at x0
    refine ⟨sI (sI (sI (sI (sI (sI σ 12 (σ.1 12 + nI 1)) 9 (σ.2.1 5 hd)) 13 (nI ((hd + 1) % 500))) 14 (nI (w - 1))) 10 (nI 0)) 11 (nI 1), sA (sA (setM (sI (sA (sA τ 6 0 (τ.2.1 6 0 + nI 1)) 3 0 (τ.2.1 7 0)) 9 (nI (w - 1))) 7 (fun j => if 0 ≤ j ∧ j < w - 1 then τ.2.1 7 (j + 1) else τ.2.1 7 j)) 4 0 (nI 0)) 5 0 (nI 1), fun p n z => ?_, fun p n z => ?_, ?_, ?_, rfl⟩
    · rw [f_M_doNext_77]; simp (disch := omega) only [f_M_doNext_107, f_D_tick_4, f_E_work, nm, q_lit, q_add, q_sub, q_subN, q_n1, q_mul, q_div, q_nm, q_and, q_or, q_xor, q_shr, q_shl, q_cl, q_a1, q_a3, q_a7, q_a31, q_a63, q_a255, q_a15, q_a16, q_a17, q_a2, q_a4, q_a8, q_a1024, q_a65536, Nat.reduceMod, Nat.reducePow, Nat.reduceDiv, Nat.reduceMul, Nat.reduceAdd, Nat.reduceSub, Nat.reduceEqDiff, q_ltT, q_ltF, q_leT, q_leF, q_eqT, q_eqF, q_inT, q_bz0, q_bz1, b_T, b_F, true_and, and_true, if_true, if_false, sI_1, sI_2, sA_1, sA_2, sA_3, u_at, vb, hlt, t1, t2]; exact z
    · rw [f_R_tick_2]; simp (disch := omega) only [f_R_tick_173, f_R_tick_46, f_R_tick_63, nm, q_lit, q_add, q_sub, q_subN, q_n1, q_mul, q_div, q_nm, q_and, q_or, q_xor, q_shr, q_shl, q_cl, q_a1, q_a3, q_a7, q_a31, q_a63, q_a255, q_a15, q_a16, q_a17, q_a2, q_a4, q_a8, q_a1024, q_a65536, Nat.reduceMod, Nat.reducePow, Nat.reduceDiv, Nat.reduceMul, Nat.reduceAdd, Nat.reduceSub, Nat.reduceEqDiff, q_ltT, q_ltF, q_leT, q_leF, q_eqT, q_eqF, q_inT, q_bz0, q_bz1, b_T, b_F, true_and, and_true, if_true, if_false, sI_1, sI_2, sA_1, sA_2, sA_3, u_at, vb', hlt', t3]
      refine ⟨_, r_shift (W := w - 1) (by omega) (w - 1) _ 0 ?_ (by omega) ?_⟩
      · rfl
      · simp (disch := omega) only [f_R_tick_119, f_R_tick_159, f_R_tick_173, nm, q_lit, q_add, q_sub, q_subN, q_n1, q_mul, q_div, q_nm, q_and, q_or, q_xor, q_shr, q_shl, q_cl, q_a1, q_a3, q_a7, q_a31, q_a63, q_a255, q_a15, q_a16, q_a17, q_a2, q_a4, q_a8, q_a1024, q_a65536, Nat.reduceMod, Nat.reducePow, Nat.reduceDiv, Nat.reduceMul, Nat.reduceAdd, Nat.reduceSub, Nat.reduceEqDiff, q_ltT, q_ltF, q_leT, q_leF, q_eqT, q_eqF, q_inT, q_bz0, q_bz1, b_T, b_F, true_and, and_true, if_true, if_false, nar0, nar1]
        exact z
    · refine ⟨m, r, ⟨⟨?_, ?_, rfl, Or.inl rfl, rfl, Or.inr rfl, fun z => absurd rfl z⟩, d1, d2⟩, ⟨(hd + 1) % 500, w - 1, by omega, by omega, rfl, rfl, rfl, fun i hi => ?_⟩, hP⟩
      · exact x0
      · exact ⟨x, hx, x0.trans vx⟩
      · have := t4 (i + 1) (by omega)
        show σ.2.1 5 (((hd + 1) % 500 + i) % 500) = (if 0 ≤ i ∧ i < w - 1 then τ.2.1 7 (i + 1) else τ.2.1 7 i) ∧ W16 (if 0 ≤ i ∧ i < w - 1 then τ.2.1 7 (i + 1) else τ.2.1 7 i)
        rw [if_pos (by omega), show ((hd + 1) % 500 + i) % 500 = (hd + (i + 1)) % 500 by omega]
        exact this
    · exact ⟨((((((FrC.refl _).sI (by omega) _).sI (by omega) _).sI (by omega) _).sI (by omega) _).sI (by omega) _).sI (by omega) _, (((((FrR.refl _).sA (by omega) _ _).sA (by omega) _ _).sI (by omega) _).sM (by omega) _).sA (by omega) _ _ |>.sA (by omega) _ _, rfl, rfl, rfl, rfl, rfl, rfl⟩
theorem s_tick1 {B : Nat} {σ τ : SS} (hB : B < 1073741824) (h : RM0 B σ τ) : ∃ u v, (∀ post n, f_M_doNext_77 post n u (nI 2) → f_M_doNext_77 post (n + 1) σ (nI 1)) ∧ (∀ post n, f_R_tick_2 post n v (nI 2) → f_R_tick_2 post (n + 1) τ (nI 1)) ∧ RM0 (B + 1) u v ∧ Same σ τ u v ∧ v.1 4 = τ.1 4 := by
  have h0 := h
  obtain ⟨m, r, ⟨d1, ⟨e1, ⟨x, hx, vx⟩, e3, e4, e5, e6, e7⟩, d2⟩, hT, ⟨c, hc, p1, p2, p3⟩⟩ := h0
  have hS : RM0 (B + 1) σ τ := ⟨m, r, ⟨d1, ⟨e1, ⟨x, hx, vx⟩, e3, e4, e5, e6, e7⟩, d2⟩, hT, ⟨c, by omega, p1, p2, p3⟩⟩
  have vx' := e1.symm.trans vx
  obtain ⟨b, hb, vb⟩ := bz_N e4
  have vb' := e3.symm.trans vb
  have hq : b = 0 ∨ b = 1 := by omega
  rcases hq with rfl | rfl
  · refine ⟨σ, τ, fun p n z => ?_, fun p n z => ?_, hS, Same.refl _ _, rfl⟩
    · rw [f_M_doNext_77]; simp (disch := omega) only [f_M_doNext_107, nm, q_lit, q_add, q_sub, q_subN, q_n1, q_mul, q_div, q_nm, q_and, q_or, q_xor, q_shr, q_shl, q_cl, q_a1, q_a3, q_a7, q_a31, q_a63, q_a255, q_a15, q_a16, q_a17, q_a2, q_a4, q_a8, q_a1024, q_a65536, Nat.reduceMod, Nat.reducePow, Nat.reduceDiv, Nat.reduceMul, Nat.reduceAdd, Nat.reduceSub, Nat.reduceEqDiff, q_ltT, q_ltF, q_leT, q_leF, q_eqT, q_eqF, q_inT, q_bz0, q_bz1, b_T, b_F, true_and, and_true, if_true, if_false, vb]; exact z
    · rw [f_R_tick_2]; simp (disch := omega) only [f_R_tick_173, nm, q_lit, q_add, q_sub, q_subN, q_n1, q_mul, q_div, q_nm, q_and, q_or, q_xor, q_shr, q_shl, q_cl, q_a1, q_a3, q_a7, q_a31, q_a63, q_a255, q_a15, q_a16, q_a17, q_a2, q_a4, q_a8, q_a1024, q_a65536, Nat.reduceMod, Nat.reducePow, Nat.reduceDiv, Nat.reduceMul, Nat.reduceAdd, Nat.reduceSub, Nat.reduceEqDiff, q_ltT, q_ltF, q_leT, q_leF, q_eqT, q_eqF, q_inT, q_bz0, q_bz1, b_T, b_F, true_and, and_true, if_true, if_false, vb']; exact z
  have et : σ.1 18 = τ.2.1 6 1 := e7 (by rw [vb]; decide)
  by_cases hlt : σ.1 18 + nI 1 < nI 4
  · have hlt' : τ.2.1 6 1 + nI 1 < nI 4 := by rw [← et]; exact hlt
    refine ⟨sI σ 18 (σ.1 18 + nI 1), sA τ 6 1 (τ.2.1 6 1 + nI 1), fun p n z => ?_, fun p n z => ?_, ⟨m, r, ⟨d1, ⟨e1, ⟨x, hx, vx⟩, e3, e4, e5, e6, fun _ => ?_⟩, d2⟩, hT, ⟨c, by omega, p1, p2, p3⟩⟩, ⟨(FrC.refl _).sI (by omega) _, (FrR.refl _).sA (by omega) _ _, rfl, rfl, rfl, rfl, rfl, rfl⟩, rfl⟩
    · rw [f_M_doNext_77]; simp (disch := omega) only [f_M_doNext_107, f_D_tick_6, nm, q_lit, q_add, q_sub, q_subN, q_n1, q_mul, q_div, q_nm, q_and, q_or, q_xor, q_shr, q_shl, q_cl, q_a1, q_a3, q_a7, q_a31, q_a63, q_a255, q_a15, q_a16, q_a17, q_a2, q_a4, q_a8, q_a1024, q_a65536, Nat.reduceMod, Nat.reducePow, Nat.reduceDiv, Nat.reduceMul, Nat.reduceAdd, Nat.reduceSub, Nat.reduceEqDiff, q_ltT, q_ltF, q_leT, q_leF, q_eqT, q_eqF, q_inT, q_bz0, q_bz1, b_T, b_F, true_and, and_true, if_true, if_false, sI_1, sI_2, sA_1, sA_2, sA_3, u_at, vb, hlt]; exact z
    · rw [f_R_tick_2]; simp (disch := omega) only [f_R_tick_173, f_R_tick_46, nm, q_lit, q_add, q_sub, q_subN, q_n1, q_mul, q_div, q_nm, q_and, q_or, q_xor, q_shr, q_shl, q_cl, q_a1, q_a3, q_a7, q_a31, q_a63, q_a255, q_a15, q_a16, q_a17, q_a2, q_a4, q_a8, q_a1024, q_a65536, Nat.reduceMod, Nat.reducePow, Nat.reduceDiv, Nat.reduceMul, Nat.reduceAdd, Nat.reduceSub, Nat.reduceEqDiff, q_ltT, q_ltF, q_leT, q_leF, q_eqT, q_eqF, q_inT, q_bz0, q_bz1, b_T, b_F, true_and, and_true, if_true, if_false, sI_1, sI_2, sA_1, sA_2, sA_3, u_at, vb', hlt']; exact z
    · show σ.1 18 + nI 1 = τ.2.1 6 1 + nI 1
      rw [et]
  have hlt' : ¬ τ.2.1 6 1 + nI 1 < nI 4 := by rw [← et]; exact hlt
  by_cases hc1 : c < 1000
  · refine ⟨sI (sI (sI (sA (sI σ 18 (σ.1 18 + nI 1)) 7 c (nI x)) 19 (nI (c + 1))) 16 (nI 0)) 17 (nI 1), sA (sA (sI (sA (sA τ 6 1 (τ.2.1 6 1 + nI 1)) 8 c (nI x)) 10 (nI (c + 1))) 4 1 (nI 0)) 5 1 (nI 1), fun p n z => ?_, fun p n z => ?_, ⟨m, r, ⟨d1, ⟨e1, ⟨x, hx, vx⟩, rfl, Or.inl rfl, rfl, Or.inr rfl, fun z => absurd rfl z⟩, d2⟩, hT, ⟨c + 1, by omega, rfl, rfl, ?_⟩⟩, ⟨(((((FrC.refl _).sI (by omega) _).sA (by omega) _ _).sI (by omega) _).sI (by omega) _).sI (by omega) _, (((((FrR.refl _).sA (by omega) _ _).sA (by omega) _ _).sI (by omega) _).sA (by omega) _ _).sA (by omega) _ _, rfl, rfl, rfl, rfl, rfl, rfl⟩, rfl⟩
    · rw [f_M_doNext_77]; simp (disch := omega) only [f_M_doNext_107, f_D_tick_6, f_P_work, f_P_work_24, nm, q_lit, q_add, q_sub, q_subN, q_n1, q_mul, q_div, q_nm, q_and, q_or, q_xor, q_shr, q_shl, q_cl, q_a1, q_a3, q_a7, q_a31, q_a63, q_a255, q_a15, q_a16, q_a17, q_a2, q_a4, q_a8, q_a1024, q_a65536, Nat.reduceMod, Nat.reducePow, Nat.reduceDiv, Nat.reduceMul, Nat.reduceAdd, Nat.reduceSub, Nat.reduceEqDiff, q_ltT, q_ltF, q_leT, q_leF, q_eqT, q_eqF, q_inT, q_bz0, q_bz1, b_T, b_F, true_and, and_true, if_true, if_false, sI_1, sI_2, sA_1, sA_2, sA_3, u_at, vb, hlt, p1, vx, nar_c hx]; exact z
    · rw [f_R_tick_2]; simp (disch := omega) only [f_R_tick_173, f_R_tick_46, f_R_tick_63, f_R_tick_119, f_R_tick_149, f_R_tick_159, nm, q_lit, q_add, q_sub, q_subN, q_n1, q_mul, q_div, q_nm, q_and, q_or, q_xor, q_shr, q_shl, q_cl, q_a1, q_a3, q_a7, q_a31, q_a63, q_a255, q_a15, q_a16, q_a17, q_a2, q_a4, q_a8, q_a1024, q_a65536, Nat.reduceMod, Nat.reducePow, Nat.reduceDiv, Nat.reduceMul, Nat.reduceAdd, Nat.reduceSub, Nat.reduceEqDiff, q_ltT, q_ltF, q_leT, q_leF, q_eqT, q_eqF, q_inT, q_bz0, q_bz1, b_T, b_F, true_and, and_true, if_true, if_false, sI_1, sI_2, sA_1, sA_2, sA_3, u_at, vb', hlt', p2, vx', nar0, nar1]; exact z
    · show upd (σ.2.1 7) c (nI x) = upd (τ.2.1 8) c (nI x)
      rw [p3]
  · refine ⟨sI (sI (sI (sI σ 18 (σ.1 18 + nI 1)) 19 (nI (c + 1))) 16 (nI 0)) 17 (nI 1), sA (sA (sI (sA τ 6 1 (τ.2.1 6 1 + nI 1)) 10 (nI (c + 1))) 4 1 (nI 0)) 5 1 (nI 1), fun p n z => ?_, fun p n z => ?_, ⟨m, r, ⟨d1, ⟨e1, ⟨x, hx, vx⟩, rfl, Or.inl rfl, rfl, Or.inr rfl, fun z => absurd rfl z⟩, d2⟩, hT, ⟨c + 1, by omega, rfl, rfl, p3⟩⟩, ⟨((((FrC.refl _).sI (by omega) _).sI (by omega) _).sI (by omega) _).sI (by omega) _, ((((FrR.refl _).sA (by omega) _ _).sI (by omega) _).sA (by omega) _ _).sA (by omega) _ _, rfl, rfl, rfl, rfl, rfl, rfl⟩, rfl⟩
    · rw [f_M_doNext_77]; simp (disch := omega) only [f_M_doNext_107, f_D_tick_6, f_P_work, f_P_work_24, nm, q_lit, q_add, q_sub, q_subN, q_n1, q_mul, q_div, q_nm, q_and, q_or, q_xor, q_shr, q_shl, q_cl, q_a1, q_a3, q_a7, q_a31, q_a63, q_a255, q_a15, q_a16, q_a17, q_a2, q_a4, q_a8, q_a1024, q_a65536, Nat.reduceMod, Nat.reducePow, Nat.reduceDiv, Nat.reduceMul, Nat.reduceAdd, Nat.reduceSub, Nat.reduceEqDiff, q_ltT, q_ltF, q_leT, q_leF, q_eqT, q_eqF, q_inT, q_bz0, q_bz1, b_T, b_F, true_and, and_true, if_true, if_false, sI_1, sI_2, sA_1, sA_2, sA_3, u_at, vb, hlt, p1]; exact z
    · rw [f_R_tick_2]; simp (disch := omega) only [f_R_tick_173, f_R_tick_46, f_R_tick_63, f_R_tick_119, f_R_tick_149, f_R_tick_159, nm, q_lit, q_add, q_sub, q_subN, q_n1, q_mul, q_div, q_nm, q_and, q_or, q_xor, q_shr, q_shl, q_cl, q_a1, q_a3, q_a7, q_a31, q_a63, q_a255, q_a15, q_a16, q_a17, q_a2, q_a4, q_a8, q_a1024, q_a65536, Nat.reduceMod, Nat.reducePow, Nat.reduceDiv, Nat.reduceMul, Nat.reduceAdd, Nat.reduceSub, Nat.reduceEqDiff, q_ltT, q_ltF, q_leT, q_leF, q_eqT, q_eqF, q_inT, q_bz0, q_bz1, b_T, b_F, true_and, and_true, if_true, if_false, sI_1, sI_2, sA_1, sA_2, sA_3, u_at, vb', hlt', p2, nar0, nar1]; exact z
theorem s_tick2 {B : Nat} {σ τ : SS} (h : RM0 B σ τ) : ∃ u v, (∀ post n, f_M_doNext_77 post n u (nI 3) → f_M_doNext_77 post (n + 1) σ (nI 2)) ∧ (∀ post n, f_R_tick_2 post n v (nI 3) → f_R_tick_2 post (n + 1) τ (nI 2)) ∧ RM0 B u v ∧ Same σ τ u v ∧ v.1 4 = τ.1 4 := by
  have h0 := h
  obtain ⟨m, r, ⟨d1, d2, ⟨e1, e2, e3, e4, e5, e6, e7⟩⟩, h2⟩ := h0
  obtain ⟨b, hb, vb⟩ := bz_N e4
  have vb' := e3.symm.trans vb
  have hq : b = 0 ∨ b = 1 := by omega
  rcases hq with rfl | rfl
  · refine ⟨σ, τ, fun p n z => ?_, fun p n z => ?_, h, Same.refl _ _, rfl⟩
    · rw [f_M_doNext_77]; simp (disch := omega) only [f_M_doNext_107, nm, q_lit, q_add, q_sub, q_subN, q_n1, q_mul, q_div, q_nm, q_and, q_or, q_xor, q_shr, q_shl, q_cl, q_a1, q_a3, q_a7, q_a31, q_a63, q_a255, q_a15, q_a16, q_a17, q_a2, q_a4, q_a8, q_a1024, q_a65536, Nat.reduceMod, Nat.reducePow, Nat.reduceDiv, Nat.reduceMul, Nat.reduceAdd, Nat.reduceSub, Nat.reduceEqDiff, q_ltT, q_ltF, q_leT, q_leF, q_eqT, q_eqF, q_inT, q_bz0, q_bz1, b_T, b_F, true_and, and_true, if_true, if_false, vb]; exact z
    · rw [f_R_tick_2]; simp (disch := omega) only [f_R_tick_173, nm, q_lit, q_add, q_sub, q_subN, q_n1, q_mul, q_div, q_nm, q_and, q_or, q_xor, q_shr, q_shl, q_cl, q_a1, q_a3, q_a7, q_a31, q_a63, q_a255, q_a15, q_a16, q_a17, q_a2, q_a4, q_a8, q_a1024, q_a65536, Nat.reduceMod, Nat.reducePow, Nat.reduceDiv, Nat.reduceMul, Nat.reduceAdd, Nat.reduceSub, Nat.reduceEqDiff, q_ltT, q_ltF, q_leT, q_leF, q_eqT, q_eqF, q_inT, q_bz0, q_bz1, b_T, b_F, true_and, and_true, if_true, if_false, vb']; exact z
  have et : σ.1 23 = τ.2.1 6 2 := e7 (by rw [vb]; decide)
  by_cases hlt : σ.1 23 + nI 1 < nI 20
  · have hlt' : τ.2.1 6 2 + nI 1 < nI 20 := by rw [← et]; exact hlt
    refine ⟨sI σ 23 (σ.1 23 + nI 1), sA τ 6 2 (τ.2.1 6 2 + nI 1), fun p n z => ?_, fun p n z => ?_, ⟨m, r, ⟨d1, d2, ⟨e1, e2, e3, e4, e5, e6, fun _ => ?_⟩⟩, h2⟩, ⟨(FrC.refl _).sI (by omega) _, (FrR.refl _).sA (by omega) _ _, rfl, rfl, rfl, rfl, rfl, rfl⟩, rfl⟩
    · rw [f_M_doNext_77]; simp (disch := omega) only [f_M_doNext_107, f_D_tick_8, nm, q_lit, q_add, q_sub, q_subN, q_n1, q_mul, q_div, q_nm, q_and, q_or, q_xor, q_shr, q_shl, q_cl, q_a1, q_a3, q_a7, q_a31, q_a63, q_a255, q_a15, q_a16, q_a17, q_a2, q_a4, q_a8, q_a1024, q_a65536, Nat.reduceMod, Nat.reducePow, Nat.reduceDiv, Nat.reduceMul, Nat.reduceAdd, Nat.reduceSub, Nat.reduceEqDiff, q_ltT, q_ltF, q_leT, q_leF, q_eqT, q_eqF, q_inT, q_bz0, q_bz1, b_T, b_F, true_and, and_true, if_true, if_false, sI_1, sI_2, sA_1, sA_2, sA_3, u_at, vb, hlt]; exact z
    · rw [f_R_tick_2]; simp (disch := omega) only [f_R_tick_173, f_R_tick_46, nm, q_lit, q_add, q_sub, q_subN, q_n1, q_mul, q_div, q_nm, q_and, q_or, q_xor, q_shr, q_shl, q_cl, q_a1, q_a3, q_a7, q_a31, q_a63, q_a255, q_a15, q_a16, q_a17, q_a2, q_a4, q_a8, q_a1024, q_a65536, Nat.reduceMod, Nat.reducePow, Nat.reduceDiv, Nat.reduceMul, Nat.reduceAdd, Nat.reduceSub, Nat.reduceEqDiff, q_ltT, q_ltF, q_leT, q_leF, q_eqT, q_eqF, q_inT, q_bz0, q_bz1, b_T, b_F, true_and, and_true, if_true, if_false, sI_1, sI_2, sA_1, sA_2, sA_3, u_at, vb', hlt']; exact z
    · show σ.1 23 + nI 1 = τ.2.1 6 2 + nI 1
      rw [et]
  have hlt' : ¬ τ.2.1 6 2 + nI 1 < nI 20 := by rw [← et]; exact hlt
  refine ⟨sI (sI (sI σ 23 (σ.1 23 + nI 1)) 21 (nI 0)) 22 (nI 1), sA (sA (sA τ 6 2 (τ.2.1 6 2 + nI 1)) 4 2 (nI 0)) 5 2 (nI 1), fun p n z => ?_, fun p n z => ?_, ⟨m, r, ⟨d1, d2, ⟨e1, e2, rfl, Or.inl rfl, rfl, Or.inr rfl, fun z => absurd rfl z⟩⟩, h2⟩, ⟨(((FrC.refl _).sI (by omega) _).sI (by omega) _).sI (by omega) _, (((FrR.refl _).sA (by omega) _ _).sA (by omega) _ _).sA (by omega) _ _, rfl, rfl, rfl, rfl, rfl, rfl⟩, rfl⟩
  · rw [f_M_doNext_77]; simp (disch := omega) only [f_M_doNext_107, f_D_tick_8, f_K_work, nm, q_lit, q_add, q_sub, q_subN, q_n1, q_mul, q_div, q_nm, q_and, q_or, q_xor, q_shr, q_shl, q_cl, q_a1, q_a3, q_a7, q_a31, q_a63, q_a255, q_a15, q_a16, q_a17, q_a2, q_a4, q_a8, q_a1024, q_a65536, Nat.reduceMod, Nat.reducePow, Nat.reduceDiv, Nat.reduceMul, Nat.reduceAdd, Nat.reduceSub, Nat.reduceEqDiff, q_ltT, q_ltF, q_leT, q_leF, q_eqT, q_eqF, q_inT, q_bz0, q_bz1, b_T, b_F, true_and, and_true, if_true, if_false, sI_1, sI_2, sA_1, sA_2, sA_3, u_at, vb, hlt]; exact z
  · rw [f_R_tick_2]; simp (disch := omega) only [f_R_tick_173, f_R_tick_46, f_R_tick_63, f_R_tick_119, f_R_tick_159, nm, q_lit, q_add, q_sub, q_subN, q_n1, q_mul, q_div, q_nm, q_and, q_or, q_xor, q_shr, q_shl, q_cl, q_a1, q_a3, q_a7, q_a31, q_a63, q_a255, q_a15, q_a16, q_a17, q_a2, q_a4, q_a8, q_a1024, q_a65536, Nat.reduceMod, Nat.reducePow, Nat.reduceDiv, Nat.reduceMul, Nat.reduceAdd, Nat.reduceSub, Nat.reduceEqDiff, q_ltT, q_ltF, q_leT, q_leF, q_eqT, q_eqF, q_inT, q_bz0, q_bz1, b_T, b_F, true_and, and_true, if_true, if_false, sI_1, sI_2, sA_1, sA_2, sA_3, u_at, vb', hlt', nar0, nar1]; exact z
theorem s_tick {B : Nat} {σ τ : SS} (hB : B < 1073741824) (h : RM0 B σ τ) : ∃ u v, (∀ post : SS → Prop, post u → ∃ n9, f_M_doNext_77 post n9 σ (nI 0)) ∧ ToV (fun p => f_R_tick p τ) v ∧ RM0 (B + 1) u v ∧ Same σ τ u v ∧ v.1 4 = τ.1 4 := by
  obtain ⟨u0, v0, a1, a2, a3, a4, a5⟩ := s_tick0 h
  obtain ⟨u1, v1, b1, b2, b3, b4, b5⟩ := s_tick1 hB a3
  obtain ⟨u2, v2, c1, c2, c3, c4, c5⟩ := s_tick2 b3
  refine ⟨u2, v2, fun p z => ⟨4, a1 _ _ (b1 _ _ (c1 _ _ ?_))⟩, fun p z => ⟨4, a2 _ _ (b2 _ _ (c2 _ _ ?_))⟩, c3, (a4.trans b4).trans c4, (c5.trans b5).trans a5⟩
  · rw [f_M_doNext_77]; simp (disch := omega) only [nm, q_lit, q_add, q_sub, q_subN, q_n1, q_mul, q_div, q_nm, q_and, q_or, q_xor, q_shr, q_shl, q_cl, q_a1, q_a3, q_a7, q_a31, q_a63, q_a255, q_a15, q_a16, q_a17, q_a2, q_a4, q_a8, q_a1024, q_a65536, Nat.reduceMod, Nat.reducePow, Nat.reduceDiv, Nat.reduceMul, Nat.reduceAdd, Nat.reduceSub, Nat.reduceEqDiff, q_ltT, q_ltF, q_leT, q_leF, q_eqT, q_eqF, q_inT, q_bz0, q_bz1, b_T, b_F, true_and, and_true, if_true, if_false]; exact z
  · rw [f_R_tick_2]; simp (disch := omega) only [nm, q_lit, q_add, q_sub, q_subN, q_n1, q_mul, q_div, q_nm, q_and, q_or, q_xor, q_shr, q_shl, q_cl, q_a1, q_a3, q_a7, q_a31, q_a63, q_a255, q_a15, q_a16, q_a17, q_a2, q_a4, q_a8, q_a1024, q_a65536, Nat.reduceMod, Nat.reducePow, Nat.reduceDiv, Nat.reduceMul, Nat.reduceAdd, Nat.reduceSub, Nat.reduceEqDiff, q_ltT, q_ltF, q_leT, q_leF, q_eqT, q_eqF, q_inT, q_bz0, q_bz1, b_T, b_F, true_and, and_true, if_true, if_false]; exact z
