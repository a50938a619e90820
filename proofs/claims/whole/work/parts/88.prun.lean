/-! the pure side: a step, a run -/
theorem s_exec {B : Nat} {σ τ : SS} (hB : B < 1073741824) (h : RMc B σ τ) (hl : τ.1 8 = nI 0) : ∃ r u v, r ≤ 1 ∧ ToV (fun q => f_M_doNext_34 q σ) u ∧ To (fun q => f_R_step_76 q τ) (nI r) v ∧ Out B σ τ r u v := by
  obtain ⟨h0, ⟨p1, p, hp, p2⟩, ⟨l1, l2⟩, hi⟩ := h
  have hh := h0
  obtain ⟨⟨m1, m2, m3, m4⟩, _⟩ := hh
  obtain ⟨w, hw, vw⟩ := m2 p
  have vw' : τ.2.1 1 p = nI w := by rw [← m1]; exact vw
  have p2' := p1.symm.trans p2
  have hx : RM0 B σ (sI τ 4 (nI 0)) := (R0_x h0 _).2.2.2.2.1
  have hc : ∀ q : SS → Prop, f_M_perform (fun r_14 σ_13 => br (r_14 = 0) (q (sI σ_13 8 2)) (c_tl q σ_13 (nI w))) σ (nI w) → f_M_doNext_34 q σ := by
    intro q z
    simp only [f_M_doNext_34]
    rw [p2]
    refine c_load hp ?_
    rw [vw]
    exact z
  by_cases k1 : 32768 ≤ w
  · obtain ⟨u, v, t1, t2, t3, t4, t5, t6⟩ := s_calc hB hw k1 hx hp p2 hi rfl
    refine ⟨1, u, v, by omega, fun q z => hc q ?_, fun q z => ?_, t4, ((FrR.refl _).sI (by omega) _).trans t5, fun _ => ⟨t3, t6.1.trans hl, t6.2⟩, fun z => absurd z (by omega)⟩
    · simp (disch := omega) only [f_M_perform, nm, q_lit, q_add, q_sub, q_subN, q_n1, q_mul, q_div, q_nm, q_and, q_or, q_xor, q_shr, q_shl, q_cl, q_a1, q_a3, q_a7, q_a31, q_a63, q_a255, q_a15, q_a16, q_a17, q_a2, q_a4, q_a8, q_a1024, q_a65536, Nat.reduceMod, Nat.reducePow, Nat.reduceDiv, Nat.reduceMul, Nat.reduceAdd, Nat.reduceSub, Nat.reduceEqDiff, q_ltT, q_ltF, q_leT, q_leF, q_eqT, q_eqF, q_inT, q_bz0, q_bz1, b_T, b_F, true_and, and_true, if_true, if_false]; exact t1 q z
    · simp (disch := omega) only [f_R_step_76, nm, q_lit, q_add, q_sub, q_subN, q_n1, q_mul, q_div, q_nm, q_and, q_or, q_xor, q_shr, q_shl, q_cl, q_a1, q_a3, q_a7, q_a31, q_a63, q_a255, q_a15, q_a16, q_a17, q_a2, q_a4, q_a8, q_a1024, q_a65536, Nat.reduceMod, Nat.reducePow, Nat.reduceDiv, Nat.reduceMul, Nat.reduceAdd, Nat.reduceSub, Nat.reduceEqDiff, q_ltT, q_ltF, q_leT, q_leF, q_eqT, q_eqF, q_inT, q_bz0, q_bz1, b_T, b_F, true_and, and_true, if_true, if_false, p2', vw']; exact t2 q z
  by_cases k2 : 24576 ≤ w
  · have k3 : w / 8192 = 3 := by omega
    obtain ⟨u, v, t1, t2, t3, t4, t5, t6⟩ := s_oper hB hw k3 hx hp p2 hi rfl
    refine ⟨1, u, v, by omega, fun q z => hc q ?_, fun q z => ?_, t4, ((FrR.refl _).sI (by omega) _).trans t5, fun _ => ⟨t3, t6.1.trans hl, t6.2⟩, fun z => absurd z (by omega)⟩
    · simp (disch := omega) only [f_M_perform, nm, q_lit, q_add, q_sub, q_subN, q_n1, q_mul, q_div, q_nm, q_and, q_or, q_xor, q_shr, q_shl, q_cl, q_a1, q_a3, q_a7, q_a31, q_a63, q_a255, q_a15, q_a16, q_a17, q_a2, q_a4, q_a8, q_a1024, q_a65536, Nat.reduceMod, Nat.reducePow, Nat.reduceDiv, Nat.reduceMul, Nat.reduceAdd, Nat.reduceSub, Nat.reduceEqDiff, q_ltT, q_ltF, q_leT, q_leF, q_eqT, q_eqF, q_inT, q_bz0, q_bz1, b_T, b_F, true_and, and_true, if_true, if_false]; exact t1 q z
    · simp (disch := omega) only [f_R_step_76, nm, q_lit, q_add, q_sub, q_subN, q_n1, q_mul, q_div, q_nm, q_and, q_or, q_xor, q_shr, q_shl, q_cl, q_a1, q_a3, q_a7, q_a31, q_a63, q_a255, q_a15, q_a16, q_a17, q_a2, q_a4, q_a8, q_a1024, q_a65536, Nat.reduceMod, Nat.reducePow, Nat.reduceDiv, Nat.reduceMul, Nat.reduceAdd, Nat.reduceSub, Nat.reduceEqDiff, q_ltT, q_ltF, q_leT, q_leF, q_eqT, q_eqF, q_inT, q_bz0, q_bz1, b_T, b_F, true_and, and_true, if_true, if_false, p2', vw', k3]; exact t2 q z
  have k3 : ¬ w / 8192 = 3 := by omega
  have hlt := eA_lt w p (σ.2.1 3)
  have m3' : (sI τ 4 (nI 0)).2.1 2 = σ.2.1 3 := m3.symm
  have m1' : (sI τ 4 (nI 0)).2.1 1 = σ.2.1 2 := m1.symm
  have m4' : ∀ j, W16 ((sI τ 4 (nI 0)).2.1 2 j) := by rw [m3']; exact m4
  have m2' : ∀ j, W16 ((sI τ 4 (nI 0)).2.1 1 j) := by rw [m1']; exact m2
  have hr : ∀ q : Int32 → SS → Prop, f_R_addressOf (fun r_11 σ_10 => br ((σ_10.1 8) = 0) (br ((nI w / 8192) = 1) (vp_in r_11 32768 ∧ vp_in (nI (w / 2048 % 4)) 4 ∧ nm (sA σ_10 2 (nI (w / 2048 % 4)).toNatClampNeg (σ_10.2.1 1 r_11.toNatClampNeg)) fun σ_15 => f_R_step_300 q σ_15 (nI ((p + 1) % 32768)) 0) (br ((nI w / 8192) = 2) (vp_in (nI (w / 2048 % 4)) 4 ∧ vp_in r_11 32768 ∧ nm (sA σ_10 1 r_11.toNatClampNeg (σ_10.2.1 2 (nI (w / 2048 % 4)).toNatClampNeg)) fun σ_14 => f_R_step_300 q σ_14 (nI ((p + 1) % 32768)) 0) (br (2 ≤ (nI (w / 2048 % 4))) (vp_in r_11 32768 ∧ br ((nI (w / 2048 % 4)) = 2) (f_R_step_278 q σ_10 (nI ((p + 1) % 32768)) r_11 1 (σ_10.2.1 1 r_11.toNatClampNeg) r_11) (f_R_step_278 q σ_10 (nI ((p + 1) % 32768)) r_11 65535 (σ_10.2.1 1 r_11.toNatClampNeg) r_11)) (br ((nI (w / 2048 % 4)) = 1) (vp_in (3 : Int32) 4 ∧ nm (sA σ_10 2 (3 : Int32).toNatClampNeg (nI ((p + 1) % 32768))) fun σ_13 => f_R_step_247 q σ_13 0 r_11) (f_R_step_247 q σ_10 0 r_11))))) (q 0 (sI σ_10 4 (τ.1 4)))) (sI τ 4 (nI 0)) (nI w) → f_R_step_76 q τ := by
    intro q z
    have e1 : nI w < 32768 := by rw [q_lit, q_lt (by omega) (by omega)]; omega
    have e2 : ¬ nI w / 8192 = 3 := by
      simp (disch := omega) only [nm, q_lit, q_add, q_sub, q_subN, q_n1, q_mul, q_div, q_nm, q_and, q_or, q_xor, q_shr, q_shl, q_cl, q_a1, q_a3, q_a7, q_a31, q_a63, q_a255, q_a15, q_a16, q_a17, q_a2, q_a4, q_a8, q_a1024, q_a65536, Nat.reduceMod, Nat.reducePow, Nat.reduceDiv, Nat.reduceMul, Nat.reduceAdd, Nat.reduceSub, Nat.reduceEqDiff]
      rw [q_eq (by omega) (by omega)]; exact k3
    have e3 : (nI w / 2048 - nI w / 2048 / 4 * 4) = nI (w / 2048 % 4) := by simp (disch := omega) only [nm, q_lit, q_add, q_sub, q_subN, q_n1, q_mul, q_div, q_nm, q_and, q_or, q_xor, q_shr, q_shl, q_cl, q_a1, q_a3, q_a7, q_a31, q_a63, q_a255, q_a15, q_a16, q_a17, q_a2, q_a4, q_a8, q_a1024, q_a65536, Nat.reduceMod, Nat.reducePow, Nat.reduceDiv, Nat.reduceMul, Nat.reduceAdd, Nat.reduceSub, Nat.reduceEqDiff]
    have e4 : ((τ.1 1 + 1) - (τ.1 1 + 1) / 32768 * 32768) = nI ((p + 1) % 32768) := by rw [p2']; simp (disch := omega) only [nm, q_lit, q_add, q_sub, q_subN, q_n1, q_mul, q_div, q_nm, q_and, q_or, q_xor, q_shr, q_shl, q_cl, q_a1, q_a3, q_a7, q_a31, q_a63, q_a255, q_a15, q_a16, q_a17, q_a2, q_a4, q_a8, q_a1024, q_a65536, Nat.reduceMod, Nat.reducePow, Nat.reduceDiv, Nat.reduceMul, Nat.reduceAdd, Nat.reduceSub, Nat.reduceEqDiff]
    have e5 : bz (τ.1 4) := by rw [← l1]; exact l2
    have e6 : τ.2.1 1 (τ.1 1).toNatClampNeg = nI w := by rw [p2', q_cl (by omega)]; exact vw'
    have e7 : vp_in (τ.1 1) 32768 := by rw [p2', q_in (by omega)]; exact hp
    simp only [f_R_step_76, nm, e4, e6, e3, e5, true_and]
    exact ⟨e7, b_t e1 (b_f e2 z)⟩
  have tail : ∀ (e : Nat) (f : Nat → Int32), e < 32768 → (∀ j, W16 (f j)) → (∀ q : SS → Prop, f_M_useMemory (fun σ_3 => c_tl q σ_3 (nI w)) (setM σ 2 f) (nI (w / 2048)) (nI e) → f_M_doNext_34 q σ) → (∀ q : Int32 → SS → Prop, (br ((nI w / 8192) = 1) (vp_in (nI e) 32768 ∧ vp_in (nI (w / 2048 % 4)) 4 ∧ nm (sA (setM (sI τ 4 (nI 0)) 1 f) 2 (nI (w / 2048 % 4)).toNatClampNeg ((setM (sI τ 4 (nI 0)) 1 f).2.1 1 (nI e).toNatClampNeg)) fun σ_15 => f_R_step_300 q σ_15 (nI ((p + 1) % 32768)) 0) (br ((nI w / 8192) = 2) (vp_in (nI (w / 2048 % 4)) 4 ∧ vp_in (nI e) 32768 ∧ nm (sA (setM (sI τ 4 (nI 0)) 1 f) 1 (nI e).toNatClampNeg ((setM (sI τ 4 (nI 0)) 1 f).2.1 2 (nI (w / 2048 % 4)).toNatClampNeg)) fun σ_14 => f_R_step_300 q σ_14 (nI ((p + 1) % 32768)) 0) (br (2 ≤ (nI (w / 2048 % 4))) (vp_in (nI e) 32768 ∧ br ((nI (w / 2048 % 4)) = 2) (f_R_step_278 q (setM (sI τ 4 (nI 0)) 1 f) (nI ((p + 1) % 32768)) (nI e) 1 ((setM (sI τ 4 (nI 0)) 1 f).2.1 1 (nI e).toNatClampNeg) (nI e)) (f_R_step_278 q (setM (sI τ 4 (nI 0)) 1 f) (nI ((p + 1) % 32768)) (nI e) 65535 ((setM (sI τ 4 (nI 0)) 1 f).2.1 1 (nI e).toNatClampNeg) (nI e))) (br ((nI (w / 2048 % 4)) = 1) (vp_in (3 : Int32) 4 ∧ nm (sA (setM (sI τ 4 (nI 0)) 1 f) 2 (3 : Int32).toNatClampNeg (nI ((p + 1) % 32768))) fun σ_13 => f_R_step_247 q σ_13 0 (nI e)) (f_R_step_247 q (setM (sI τ 4 (nI 0)) 1 f) 0 (nI e)))))) → f_R_step_76 q τ) → ∃ r u v, r ≤ 1 ∧ ToV (fun q => f_M_doNext_34 q σ) u ∧ To (fun q => f_R_step_76 q τ) (nI r) v ∧ Out B σ τ r u v := by
    intro e f he hf c1 c2
    obtain ⟨u, v, t1, t2, t3, t4, t5, t6⟩ := s_mem (w := w) (e := e) (p := p) hB (by omega) he (R0_mem hx hf) hp p2 hi rfl
    exact ⟨1, u, v, by omega, fun q z => c1 q (t1 q z), fun q z => c2 q (t2 q z), ((FrC.refl _).sM (by omega) _).trans t4, (((FrR.refl _).sI (by omega) _).sM (by omega) _).trans t5, fun _ => ⟨t3, t6.1.trans hl, t6.2⟩, fun z => absurd z (by omega)⟩
  have cU : ∀ (q : SS → Prop) (e : Nat) (f : Nat → Int32), e < 32768 → f_M_useMemory (fun σ_3 => c_tl q σ_3 (nI w)) (setM σ 2 f) (nI (w / 2048)) (nI e) → br (nI e = -1) (br ((0 : Int32) = 0) (q (sI (setM σ 2 f) 8 2)) (c_tl q (setM σ 2 f) (nI w))) (f_M_useMemory (fun σ_3 => br ((1 : Int32) = 0) (q (sI σ_3 8 2)) (c_tl q σ_3 (nI w))) (setM σ 2 f) (nI w >>> ((11 : Int32) &&& 31)) (nI e)) := by
    intro q e f he z
    simp (disch := omega) only [nm, q_lit, q_add, q_sub, q_subN, q_n1, q_mul, q_div, q_nm, q_and, q_or, q_xor, q_shr, q_shl, q_cl, q_a1, q_a3, q_a7, q_a31, q_a63, q_a255, q_a15, q_a16, q_a17, q_a2, q_a4, q_a8, q_a1024, q_a65536, Nat.reduceMod, Nat.reducePow, Nat.reduceDiv, Nat.reduceMul, Nat.reduceAdd, Nat.reduceSub, Nat.reduceEqDiff, q_ltT, q_ltF, q_leT, q_leF, q_eqT, q_eqF, q_inT, q_bz0, q_bz1, b_T, b_F, true_and, and_true, if_true, if_false]
    exact z
  have cP : ∀ (q : SS → Prop), f_M_addressOf (fun r_2 σ_1 => br (r_2 = (-1)) (br ((0 : Int32) = 0) (q (sI σ_1 8 2)) (c_tl q σ_1 (nI w))) (f_M_useMemory (fun σ_3 => br ((1 : Int32) = 0) (q (sI σ_3 8 2)) (c_tl q σ_3 (nI w))) σ_1 (nI w >>> ((11 : Int32) &&& 31)) r_2)) σ (nI w) → f_M_doNext_34 q σ := by
    intro q z
    refine hc q ?_
    have e1 : nI w < 32768 := by rw [q_lit, q_lt (by omega) (by omega)]; omega
    have e2 : nI w < 24576 := by rw [q_lit, q_lt (by omega) (by omega)]; omega
    exact b_t e1 (b_t e2 z)
  have sf : setM σ 2 (σ.2.1 2) = σ := setM_self _ _
  have st : setM (sI τ 4 (nI 0)) 1 (σ.2.1 2) = sI τ 4 (nI 0) := by rw [← m1']; exact setM_self _ _
  rcases Nat.mod_two_eq_zero_or_one (w / 1024) with ki | ki
  · refine tail (eA w p (σ.2.1 3)) (σ.2.1 2) hlt m2 (fun q z => cP q ?_) (fun q z => hr q ?_)
    · have := cU q (eA w p (σ.2.1 3)) (σ.2.1 2) hlt z
      rw [sf] at this
      exact c_addressOf hw hp p2 m4 (fun _ => this) (fun n => by omega)
    · rw [st] at z
      refine r_addressOf hw hp p2' m4' (fun _ => ?_) (fun n => by omega)
      have ee : eA w p ((sI τ 4 (nI 0)).2.1 2) = eA w p (σ.2.1 3) := by rw [m3']
      rw [ee]
      exact b_t hl z
  · have hW := rowE_W 14 (σ.2.1 2) (eA w p (σ.2.1 3)) m2
    by_cases kr : (rowE 14 (σ.2.1 2) (eA w p (σ.2.1 3))).1 = 32768
    · refine ⟨0, sI (setM σ 2 (rowE 14 (σ.2.1 2) (eA w p (σ.2.1 3))).2) 8 (nI 2), sI (sI (setM (sI τ 4 (nI 0)) 1 (rowE 14 (σ.2.1 2) (eA w p (σ.2.1 3))).2) 8 (nI 1)) 4 (τ.1 4), by omega, fun q z => cP q ?_, fun q z => hr q ?_, ((FrC.refl _).sM (by omega) _).sI (by omega) _, ((((FrR.refl _).sI (by omega) _).sM (by omega) _).sI (by omega) _).sI (by omega) _, fun z => absurd z (by omega), fun _ => ⟨⟨?_, ⟨p1, p, hp, p2⟩, ⟨l1, l2⟩, hi⟩, rfl, rfl⟩⟩
      · refine c_addressOf hw hp p2 m4 (fun n => by omega) (fun _ => c_endOfRow hlt m2 ?_)
        rw [if_pos kr]
        exact b_t rfl (b_t rfl z)
      · refine r_addressOf hw hp p2' m4' (fun n => by omega) (fun _ => ?_)
        rw [m3']
        refine r_chase hlt m2' ?_
        rw [m1', if_pos kr]
        exact b_f (show ¬ (1 : Int32) = 0 by decide) z
      · exact RM0_mono (Nat.le_succ B) (R0_end (nI 2) (R0_mem h0 hW.1))
    · refine tail (rowE 14 (σ.2.1 2) (eA w p (σ.2.1 3))).1 (rowE 14 (σ.2.1 2) (eA w p (σ.2.1 3))).2 (by have := hW.2; omega) hW.1 (fun q z => cP q ?_) (fun q z => hr q ?_)
      · refine c_addressOf hw hp p2 m4 (fun n => by omega) (fun _ => c_endOfRow hlt m2 ?_)
        rw [if_neg kr]
        exact cU q _ _ (by have := hW.2; omega) z
      · refine r_addressOf hw hp p2' m4' (fun n => by omega) (fun _ => ?_)
        rw [m3']
        refine r_chase hlt m2' ?_
        rw [m1', if_neg kr]
        exact b_t hl z
theorem s_step {B : Nat} {σ τ : SS} (hB : B < 1073741824) (h : RMc B σ τ) (hl : τ.1 8 = nI 0) : ∃ r u v, r ≤ 1 ∧ ToV (fun q => f_M_doNext q σ) u ∧ To (fun q => f_R_step q τ) (nI r) v ∧ Out B σ τ r u v := by
  have hh := h
  obtain ⟨h0, ⟨p1, p, hp, p2⟩, ⟨l1, l2⟩, hi⟩ := hh
  have p2' := p1.symm.trans p2
  have h00 := h0
  obtain ⟨⟨m1, m2, m3, m4⟩, ⟨r1, r2, r3, r4, r5, ⟨mk, hmk, r6⟩, r7, r8, r9, r10⟩, ⟨⟨_, _, _, _, e1, e2, _⟩, ⟨_, _, _, _, e3, e4, _⟩, ⟨_, _, _, _, e5, e6, _⟩⟩, hT, hP⟩ := h00
  obtain ⟨io, hio, vio⟩ := bz_N r8
  have vio' := r7.symm.trans vio
  obtain ⟨lt, hlt, vlt⟩ := bz_N l2
  have vlt' := l1.symm.trans vlt
  have plain : (∀ q : SS → Prop, f_M_doNext_34 q σ → f_M_doNext q σ) → (∀ q : Int32 → SS → Prop, f_R_step_76 q τ → f_R_step q τ) → ∃ r u v, r ≤ 1 ∧ ToV (fun q => f_M_doNext q σ) u ∧ To (fun q => f_R_step q τ) (nI r) v ∧ Out B σ τ r u v := by
    intro c1 c2
    obtain ⟨r, u, v, t0, t1, t2, t3⟩ := s_exec hB h hl
    exact ⟨r, u, v, t0, fun q z => c1 q (t1 q z), fun q z => c2 q (t2 q z), t3⟩
  by_cases i0 : io = 0
  · subst i0
    refine plain (fun q z => ?_) (fun q z => ?_)
    · simp (disch := omega) only [f_M_doNext, nm, q_lit, q_add, q_sub, q_subN, q_n1, q_mul, q_div, q_nm, q_and, q_or, q_xor, q_shr, q_shl, q_cl, q_a1, q_a3, q_a7, q_a31, q_a63, q_a255, q_a15, q_a16, q_a17, q_a2, q_a4, q_a8, q_a1024, q_a65536, Nat.reduceMod, Nat.reducePow, Nat.reduceDiv, Nat.reduceMul, Nat.reduceAdd, Nat.reduceSub, Nat.reduceEqDiff, q_ltT, q_ltF, q_leT, q_leF, q_eqT, q_eqF, q_inT, q_bz0, q_bz1, b_T, b_F, true_and, and_true, if_true, if_false, vio]; exact z
    · simp (disch := omega) only [f_R_step, f_R_step_26, nm, q_lit, q_add, q_sub, q_subN, q_n1, q_mul, q_div, q_nm, q_and, q_or, q_xor, q_shr, q_shl, q_cl, q_a1, q_a3, q_a7, q_a31, q_a63, q_a255, q_a15, q_a16, q_a17, q_a2, q_a4, q_a8, q_a1024, q_a65536, Nat.reduceMod, Nat.reducePow, Nat.reduceDiv, Nat.reduceMul, Nat.reduceAdd, Nat.reduceSub, Nat.reduceEqDiff, q_ltT, q_ltF, q_leT, q_leF, q_eqT, q_eqF, q_inT, q_bz0, q_bz1, b_T, b_F, true_and, and_true, if_true, if_false, vio']; exact z
  have i1 : io = 1 := by omega
  subst i1
  by_cases j0 : lt = 1
  · subst j0
    refine plain (fun q z => ?_) (fun q z => ?_)
    · simp (disch := omega) only [f_M_doNext, nm, q_lit, q_add, q_sub, q_subN, q_n1, q_mul, q_div, q_nm, q_and, q_or, q_xor, q_shr, q_shl, q_cl, q_a1, q_a3, q_a7, q_a31, q_a63, q_a255, q_a15, q_a16, q_a17, q_a2, q_a4, q_a8, q_a1024, q_a65536, Nat.reduceMod, Nat.reducePow, Nat.reduceDiv, Nat.reduceMul, Nat.reduceAdd, Nat.reduceSub, Nat.reduceEqDiff, q_ltT, q_ltF, q_leT, q_leF, q_eqT, q_eqF, q_inT, q_bz0, q_bz1, b_T, b_F, true_and, and_true, if_true, if_false, vio, vlt]; exact z
    · simp (disch := omega) only [f_R_step, f_R_step_26, nm, q_lit, q_add, q_sub, q_subN, q_n1, q_mul, q_div, q_nm, q_and, q_or, q_xor, q_shr, q_shl, q_cl, q_a1, q_a3, q_a7, q_a31, q_a63, q_a255, q_a15, q_a16, q_a17, q_a2, q_a4, q_a8, q_a1024, q_a65536, Nat.reduceMod, Nat.reducePow, Nat.reduceDiv, Nat.reduceMul, Nat.reduceAdd, Nat.reduceSub, Nat.reduceEqDiff, q_ltT, q_ltF, q_leT, q_leF, q_eqT, q_eqF, q_inT, q_bz0, q_bz1, b_T, b_F, true_and, and_true, if_true, if_false, vio', vlt']; exact z
  have j1 : lt = 0 := by omega
  subst j1
  obtain ⟨d0, q0, v0⟩ := bz_N e2
  obtain ⟨d1, q1, v1⟩ := bz_N e4
  obtain ⟨d2, q2, v2⟩ := bz_N e6
  have hask : askN d0 d1 d2 mk ≤ 10 := by
    unfold askN
    (repeat' split) <;> omega
  by_cases ka : askN d0 d1 d2 mk = 0
  · refine plain (fun q z => ?_) (fun q z => ?_)
    · simp (disch := omega) only [f_M_doNext, nm, q_lit, q_add, q_sub, q_subN, q_n1, q_mul, q_div, q_nm, q_and, q_or, q_xor, q_shr, q_shl, q_cl, q_a1, q_a3, q_a7, q_a31, q_a63, q_a255, q_a15, q_a16, q_a17, q_a2, q_a4, q_a8, q_a1024, q_a65536, Nat.reduceMod, Nat.reducePow, Nat.reduceDiv, Nat.reduceMul, Nat.reduceAdd, Nat.reduceSub, Nat.reduceEqDiff, q_ltT, q_ltF, q_leT, q_leF, q_eqT, q_eqF, q_inT, q_bz0, q_bz1, b_T, b_F, true_and, and_true, if_true, if_false, vio, vlt]
      refine c_asking q0 q1 q2 hmk v0 v1 v2 r6 ?_
      simp (disch := omega) only [nm, q_lit, q_add, q_sub, q_subN, q_n1, q_mul, q_div, q_nm, q_and, q_or, q_xor, q_shr, q_shl, q_cl, q_a1, q_a3, q_a7, q_a31, q_a63, q_a255, q_a15, q_a16, q_a17, q_a2, q_a4, q_a8, q_a1024, q_a65536, Nat.reduceMod, Nat.reducePow, Nat.reduceDiv, Nat.reduceMul, Nat.reduceAdd, Nat.reduceSub, Nat.reduceEqDiff, q_ltT, q_ltF, q_leT, q_leF, q_eqT, q_eqF, q_inT, q_bz0, q_bz1, b_T, b_F, true_and, and_true, if_true, if_false, ka]; exact z
    · simp (disch := omega) only [f_R_step, nm, q_lit, q_add, q_sub, q_subN, q_n1, q_mul, q_div, q_nm, q_and, q_or, q_xor, q_shr, q_shl, q_cl, q_a1, q_a3, q_a7, q_a31, q_a63, q_a255, q_a15, q_a16, q_a17, q_a2, q_a4, q_a8, q_a1024, q_a65536, Nat.reduceMod, Nat.reducePow, Nat.reduceDiv, Nat.reduceMul, Nat.reduceAdd, Nat.reduceSub, Nat.reduceEqDiff, q_ltT, q_ltF, q_leT, q_leF, q_eqT, q_eqF, q_inT, q_bz0, q_bz1, b_T, b_F, true_and, and_true, if_true, if_false, vio', vlt']
      refine r_asking q0 q1 q2 hmk (e1.symm.trans v0) (e3.symm.trans v1) (e5.symm.trans v2) (r5.symm.trans r6) ?_
      simp (disch := omega) only [f_R_step_26, nm, q_lit, q_add, q_sub, q_subN, q_n1, q_mul, q_div, q_nm, q_and, q_or, q_xor, q_shr, q_shl, q_cl, q_a1, q_a3, q_a7, q_a31, q_a63, q_a255, q_a15, q_a16, q_a17, q_a2, q_a4, q_a8, q_a1024, q_a65536, Nat.reduceMod, Nat.reducePow, Nat.reduceDiv, Nat.reduceMul, Nat.reduceAdd, Nat.reduceSub, Nat.reduceEqDiff, q_ltT, q_ltF, q_leT, q_leF, q_eqT, q_eqF, q_inT, q_bz0, q_bz1, b_T, b_F, true_and, and_true, if_true, if_false, ka]; exact z
  have hu : ∀ j, W16 (upd (σ.2.1 2) 0 (nI p) j) := upd_W m2 0 p (by omega)
  have hW := rowE_W 14 (upd (σ.2.1 2) 0 (nI p)) 1 hu
  have base : RM0 B (sI (setM (sI σ 7 (σ.1 7 + nI 1)) 2 (rowE 14 (upd (σ.2.1 2) 0 (nI p)) 1).2) 4 (nI 0)) (sI (setM (sI τ 7 (τ.1 7 + nI 1)) 1 (rowE 14 (upd (σ.2.1 2) 0 (nI p)) 1).2) 3 (nI 0)) := by
    refine R0_ion (R0_mem ?_ hW.1) (by omega)
    rw [r9]
    exact R0_int _ h0
  have cI : ∀ q : Int32 → SS → Prop, q (if (rowE 14 (upd (σ.2.1 2) 0 (nI p)) 1).1 = 32768 then nI 0 else nI 1) (if (rowE 14 (upd (σ.2.1 2) 0 (nI p)) 1).1 = 32768 then sI (setM (sI σ 7 (σ.1 7 + nI 1)) 2 (rowE 14 (upd (σ.2.1 2) 0 (nI p)) 1).2) 4 (nI 0) else sI (sI (setM (sI σ 7 (σ.1 7 + nI 1)) 2 (rowE 14 (upd (σ.2.1 2) 0 (nI p)) 1).2) 4 (nI 0)) 1 (nI (rowE 14 (upd (σ.2.1 2) 0 (nI p)) 1).1)) → f_M_interrupt q σ := by
    intro q z
    simp only [f_M_interrupt, nm]
    refine c_store (e := 0) (by omega) ?_
    refine c_endOfRow (e := 1) (by omega) ?_ ?_
    · show ∀ j, W16 (upd (σ.2.1 2) 0 (σ.1 1) j)
      rw [p2]; exact hu
    · have e : (sI (sA (sI σ 7 (σ.1 7 + 1)) 2 0 ((sI σ 7 (σ.1 7 + 1)).1 1)) 4 0).2.1 2 = upd (σ.2.1 2) 0 (nI p) := by
        show upd (σ.2.1 2) 0 (σ.1 1) = _
        rw [p2]
      rw [e]
      by_cases kr : (rowE 14 (upd (σ.2.1 2) 0 (nI p)) 1).1 = 32768
      · rw [if_pos kr, if_pos kr] at z
        rw [if_pos kr]
        refine b_t rfl ?_
        have e2 : setM (sI (sA (sI σ 7 (σ.1 7 + 1)) 2 0 ((sI σ 7 (σ.1 7 + 1)).1 1)) 4 0) 2 (rowE 14 (upd (σ.2.1 2) 0 (nI p)) 1).2 = sI (setM (sI σ 7 (σ.1 7 + nI 1)) 2 (rowE 14 (upd (σ.2.1 2) 0 (nI p)) 1).2) 4 (nI 0) := by
          rw [sA_M]
          exact congrArg (fun x => sI x 4 0) (setM_M (sI σ 7 (σ.1 7 + 1)) 2 _ _)
        rw [e2]; exact z
      · rw [if_neg kr, if_neg kr] at z
        rw [if_neg kr]
        refine b_f (by have := hW.2; rw [q_lit, q_n1, q_eq (by omega) (by omega)]; omega) ?_
        have e2 : setM (sI (sA (sI σ 7 (σ.1 7 + 1)) 2 0 ((sI σ 7 (σ.1 7 + 1)).1 1)) 4 0) 2 (rowE 14 (upd (σ.2.1 2) 0 (nI p)) 1).2 = sI (setM (sI σ 7 (σ.1 7 + nI 1)) 2 (rowE 14 (upd (σ.2.1 2) 0 (nI p)) 1).2) 4 (nI 0) := by
          rw [sA_M]
          exact congrArg (fun x => sI x 4 0) (setM_M (sI σ 7 (σ.1 7 + 1)) 2 _ _)
        rw [e2]; exact z
  have cD : ∀ q : SS → Prop, f_M_interrupt (fun r_23 σ_22 => br (r_23 = 0) (q (sI σ_22 8 2)) (f_M_doNext_34 q σ_22)) σ → f_M_doNext q σ := by
    intro q z
    simp (disch := omega) only [f_M_doNext, nm, q_lit, q_add, q_sub, q_subN, q_n1, q_mul, q_div, q_nm, q_and, q_or, q_xor, q_shr, q_shl, q_cl, q_a1, q_a3, q_a7, q_a31, q_a63, q_a255, q_a15, q_a16, q_a17, q_a2, q_a4, q_a8, q_a1024, q_a65536, Nat.reduceMod, Nat.reducePow, Nat.reduceDiv, Nat.reduceMul, Nat.reduceAdd, Nat.reduceSub, Nat.reduceEqDiff, q_ltT, q_ltF, q_leT, q_leF, q_eqT, q_eqF, q_inT, q_bz0, q_bz1, b_T, b_F, true_and, and_true, if_true, if_false, vio, vlt]
    refine c_asking q0 q1 q2 hmk v0 v1 v2 r6 ?_
    simp (disch := omega) only [nm, q_lit, q_add, q_sub, q_subN, q_n1, q_mul, q_div, q_nm, q_and, q_or, q_xor, q_shr, q_shl, q_cl, q_a1, q_a3, q_a7, q_a31, q_a63, q_a255, q_a15, q_a16, q_a17, q_a2, q_a4, q_a8, q_a1024, q_a65536, Nat.reduceMod, Nat.reducePow, Nat.reduceDiv, Nat.reduceMul, Nat.reduceAdd, Nat.reduceSub, Nat.reduceEqDiff, q_ltT, q_ltF, q_leT, q_leF, q_eqT, q_eqF, q_inT, q_bz0, q_bz1, b_T, b_F, true_and, and_true, if_true, if_false]
    simp only [q_lit] at z
    exact z
  have rD : ∀ q : Int32 → SS → Prop, (if (rowE 14 (upd (σ.2.1 2) 0 (nI p)) 1).1 = 32768 then q (nI 0) (sI (sI (setM (sI τ 7 (τ.1 7 + nI 1)) 1 (rowE 14 (upd (σ.2.1 2) 0 (nI p)) 1).2) 3 (nI 0)) 8 (nI 1)) else f_R_step_76 q (sI (sI (setM (sI τ 7 (τ.1 7 + nI 1)) 1 (rowE 14 (upd (σ.2.1 2) 0 (nI p)) 1).2) 3 (nI 0)) 1 (nI (rowE 14 (upd (σ.2.1 2) 0 (nI p)) 1).1))) → f_R_step q τ := by
    intro q z
    simp (disch := omega) only [f_R_step, nm, q_lit, q_add, q_sub, q_subN, q_n1, q_mul, q_div, q_nm, q_and, q_or, q_xor, q_shr, q_shl, q_cl, q_a1, q_a3, q_a7, q_a31, q_a63, q_a255, q_a15, q_a16, q_a17, q_a2, q_a4, q_a8, q_a1024, q_a65536, Nat.reduceMod, Nat.reducePow, Nat.reduceDiv, Nat.reduceMul, Nat.reduceAdd, Nat.reduceSub, Nat.reduceEqDiff, q_ltT, q_ltF, q_leT, q_leF, q_eqT, q_eqF, q_inT, q_bz0, q_bz1, b_T, b_F, true_and, and_true, if_true, if_false, vio', vlt']
    refine r_asking q0 q1 q2 hmk (e1.symm.trans v0) (e3.symm.trans v1) (e5.symm.trans v2) (r5.symm.trans r6) ?_
    simp (disch := omega) only [f_R_step_26, nm, q_lit, q_add, q_sub, q_subN, q_n1, q_mul, q_div, q_nm, q_and, q_or, q_xor, q_shr, q_shl, q_cl, q_a1, q_a3, q_a7, q_a31, q_a63, q_a255, q_a15, q_a16, q_a17, q_a2, q_a4, q_a8, q_a1024, q_a65536, Nat.reduceMod, Nat.reducePow, Nat.reduceDiv, Nat.reduceMul, Nat.reduceAdd, Nat.reduceSub, Nat.reduceEqDiff, q_ltT, q_ltF, q_leT, q_leF, q_eqT, q_eqF, q_inT, q_bz0, q_bz1, b_T, b_F, true_and, and_true, if_true, if_false]
    have e : (sI (sA (sI τ 7 (τ.1 7 + nI 1)) 1 0 ((sI τ 7 (τ.1 7 + nI 1)).1 1)) 3 (nI 0)).2.1 1 = upd (σ.2.1 2) 0 (nI p) := by
      show upd (τ.2.1 1) 0 (τ.1 1) = _
      rw [p2', m1]
    have e2 : setM (sI (sA (sI τ 7 (τ.1 7 + nI 1)) 1 0 ((sI τ 7 (τ.1 7 + nI 1)).1 1)) 3 (nI 0)) 1 (rowE 14 (upd (σ.2.1 2) 0 (nI p)) 1).2 = sI (setM (sI τ 7 (τ.1 7 + nI 1)) 1 (rowE 14 (upd (σ.2.1 2) 0 (nI p)) 1).2) 3 (nI 0) := by
      rw [sA_M]
      exact congrArg (fun x => sI x 3 (nI 0)) (setM_M (sI τ 7 (τ.1 7 + nI 1)) 1 _ _)
    refine r_chase (e := 1) (by omega) (by rw [e]; exact hu) ?_
    rw [e, e2]
    by_cases kr : (rowE 14 (upd (σ.2.1 2) 0 (nI p)) 1).1 = 32768
    · rw [if_pos kr] at z ⊢
      exact b_f (show ¬ (1 : Int32) = 0 by decide) z
    · rw [if_neg kr] at z ⊢
      exact b_t hl z
  by_cases kr : (rowE 14 (upd (σ.2.1 2) 0 (nI p)) 1).1 = 32768
  · refine ⟨0, sI (sI (setM (sI σ 7 (σ.1 7 + nI 1)) 2 (rowE 14 (upd (σ.2.1 2) 0 (nI p)) 1).2) 4 (nI 0)) 8 (nI 2), sI (sI (setM (sI τ 7 (τ.1 7 + nI 1)) 1 (rowE 14 (upd (σ.2.1 2) 0 (nI p)) 1).2) 3 (nI 0)) 8 (nI 1), by omega, fun q z => cD q (cI _ ?_), fun q z => rD q ?_, ((((FrC.refl _).sI (by omega) _).sM (by omega) _).sI (by omega) _).sI (by omega) _, ((((FrR.refl _).sI (by omega) _).sM (by omega) _).sI (by omega) _).sI (by omega) _, fun z => absurd z (by omega), fun _ => ⟨⟨RM0_mono (Nat.le_succ B) (R0_end (nI 2) base), ⟨p1, p, hp, p2⟩, ⟨l1, l2⟩, hi⟩, rfl, rfl⟩⟩
    · rw [if_pos kr, if_pos kr]; exact b_t rfl z
    · rw [if_pos kr]; exact z
  · have hr := hW.2
    have h' : RMc B (sI (sI (setM (sI σ 7 (σ.1 7 + nI 1)) 2 (rowE 14 (upd (σ.2.1 2) 0 (nI p)) 1).2) 4 (nI 0)) 1 (nI (rowE 14 (upd (σ.2.1 2) 0 (nI p)) 1).1)) (sI (sI (setM (sI τ 7 (τ.1 7 + nI 1)) 1 (rowE 14 (upd (σ.2.1 2) 0 (nI p)) 1).2) 3 (nI 0)) 1 (nI (rowE 14 (upd (σ.2.1 2) 0 (nI p)) 1).1)) := ⟨base, ⟨rfl, _, by omega, rfl⟩, ⟨l1, l2⟩, hi⟩
    obtain ⟨r, u, v, t0, t1, t2, ⟨o1, o2, o3⟩⟩ := s_exec hB h' hl
    refine ⟨r, u, v, t0, fun q z => cD q (cI _ ?_), fun q z => rD q ?_, ((((FrC.refl _).sI (by omega) _).sM (by omega) _).sI (by omega) _).sI (by omega) _ |>.trans o1, ((((FrR.refl _).sI (by omega) _).sM (by omega) _).sI (by omega) _).sI (by omega) _ |>.trans o2, o3⟩
    · rw [if_neg kr, if_neg kr]
      exact b_f (show ¬ (1 : Int32) = 0 by decide) (t1 q z)
    · rw [if_neg kr]; exact t2 q z
theorem s_run {N : Nat} (hN : N ≤ 5000) (bf : Int32) (k : Nat) : ∀ (σ τ : SS) (i j B : Nat), i + k = N → B + k < 1073741824 → RMc B σ τ → (σ.1 8 = nI 0 → τ.1 8 = nI 0 ∧ i = j) → j ≤ i → σ.1 6 = bf + nI j → ∃ u v j', (∀ q : Int32 → SS → Prop, q ((u.1 6) - bf) u → f_M_runUpTo_12 q (k + 1) σ (nI N) bf (nI i)) ∧ (∀ q : Int32 → SS → Prop, q (nI j') v → f_R_run_38 q (k + 1) τ (nI N) (nI j)) ∧ u.1 6 = bf + nI j' ∧ RMc (B + k) u v ∧ FrC σ u ∧ FrR τ v := by
  induction k with
  | zero =>
    intro σ τ i j B hi hB h h8 hji h6
    refine ⟨σ, τ, j, fun q z => ?_, fun q z => ?_, h6, h, FrC.refl _, FrR.refl _⟩
    · simp (disch := omega) only [f_M_runUpTo_12, f_M_runUpTo_34, nm, q_lit, q_add, q_sub, q_subN, q_n1, q_mul, q_div, q_nm, q_and, q_or, q_xor, q_shr, q_shl, q_cl, q_a1, q_a3, q_a7, q_a31, q_a63, q_a255, q_a15, q_a16, q_a17, q_a2, q_a4, q_a8, q_a1024, q_a65536, Nat.reduceMod, Nat.reducePow, Nat.reduceDiv, Nat.reduceMul, Nat.reduceAdd, Nat.reduceSub, Nat.reduceEqDiff, q_ltT, q_ltF, q_leT, q_leF, q_eqT, q_eqF, q_inT, q_bz0, q_bz1, b_T, b_F, true_and, and_true, if_true, if_false]; exact z
    · by_cases e8 : σ.1 8 = nI 0
      · have := (h8 e8).2
        simp (disch := omega) only [f_R_run_38, nm, q_lit, q_add, q_sub, q_subN, q_n1, q_mul, q_div, q_nm, q_and, q_or, q_xor, q_shr, q_shl, q_cl, q_a1, q_a3, q_a7, q_a31, q_a63, q_a255, q_a15, q_a16, q_a17, q_a2, q_a4, q_a8, q_a1024, q_a65536, Nat.reduceMod, Nat.reducePow, Nat.reduceDiv, Nat.reduceMul, Nat.reduceAdd, Nat.reduceSub, Nat.reduceEqDiff, q_ltT, q_ltF, q_leT, q_leF, q_eqT, q_eqF, q_inT, q_bz0, q_bz1, b_T, b_F, true_and, and_true, if_true, if_false]; exact z
      · have e8' : ¬ τ.1 11 = 0 := by
          obtain ⟨⟨_, ⟨_, _, _, _, _, _, _, _, _, r10⟩, _⟩, _⟩ := h
          rw [← r10]; exact e8
        rw [f_R_run_38]
        exact ⟨fun _ => z, fun _ => b_f e8' z⟩
  | succ k ih =>
    intro σ τ i j B hi hB h h8 hji h6
    have h11 : σ.1 8 = τ.1 11 := by
      obtain ⟨⟨_, ⟨_, _, _, _, _, _, _, _, _, r10⟩, _⟩, _⟩ := h
      exact r10
    by_cases e8 : σ.1 8 = nI 0
    · obtain ⟨hl, rfl⟩ := h8 e8
      obtain ⟨r, u, v, t0, t1, t2, ⟨o1, o2, o3, o4⟩⟩ := s_step (by omega) h hl
      rcases Nat.le_one_iff_eq_zero_or_eq_one.mp t0 with rfl | rfl
      · obtain ⟨g1, g2, g3⟩ := o4 rfl
        have u6 : u.1 6 = bf + nI i := by
          rw [g3]; exact h6
        obtain ⟨u', v', j', a1, a2, a3, a4, a5, a6⟩ := ih u (sI v 11 (nI 2)) (i + 1) i (B + 1) (by omega) (by omega) g1 (fun z => by rw [g2] at z; exact absurd z (by decide)) (by omega) u6
        refine ⟨u', v', j', fun q z => ?_, fun q z => ?_, a3, by rw [show B + (k + 1) = B + 1 + k by omega]; exact a4, o1.trans a5, (o2.sI (by omega) _).trans a6⟩
        · rw [f_M_runUpTo_12]
          refine b_f (by rw [q_le (by omega) (by omega)]; omega) (b_t e8 (t1 _ ?_))
          simp (disch := omega) only [nm, q_lit, q_add, q_sub, q_subN, q_n1, q_mul, q_div, q_nm, q_and, q_or, q_xor, q_shr, q_shl, q_cl, q_a1, q_a3, q_a7, q_a31, q_a63, q_a255, q_a15, q_a16, q_a17, q_a2, q_a4, q_a8, q_a1024, q_a65536, Nat.reduceMod, Nat.reducePow, Nat.reduceDiv, Nat.reduceMul, Nat.reduceAdd, Nat.reduceSub, Nat.reduceEqDiff, q_ltT, q_ltF, q_leT, q_leF, q_eqT, q_eqF, q_inT, q_bz0, q_bz1, b_T, b_F, true_and, and_true, if_true, if_false]
          exact a1 q z
        · rw [f_R_run_38]
          refine b_f (by rw [q_le (by omega) (by omega)]; omega) (b_t (h11 ▸ e8) (t2 _ (b_t rfl (a2 q z))))
      · obtain ⟨g1, g2, g3⟩ := o3 rfl
        have u6 : u.1 6 = bf + nI (i + 1) := by
          rw [g3, h6, Int32.add_assoc, q_add]
        obtain ⟨u', v', j', a1, a2, a3, a4, a5, a6⟩ := ih u v (i + 1) (i + 1) (B + 1) (by omega) (by omega) g1 (fun z => ⟨g2, rfl⟩) (by omega) u6
        refine ⟨u', v', j', fun q z => ?_, fun q z => ?_, a3, by rw [show B + (k + 1) = B + 1 + k by omega]; exact a4, o1.trans a5, o2.trans a6⟩
        · rw [f_M_runUpTo_12]
          refine b_f (by rw [q_le (by omega) (by omega)]; omega) (b_t e8 (t1 _ ?_))
          simp (disch := omega) only [nm, q_lit, q_add, q_sub, q_subN, q_n1, q_mul, q_div, q_nm, q_and, q_or, q_xor, q_shr, q_shl, q_cl, q_a1, q_a3, q_a7, q_a31, q_a63, q_a255, q_a15, q_a16, q_a17, q_a2, q_a4, q_a8, q_a1024, q_a65536, Nat.reduceMod, Nat.reducePow, Nat.reduceDiv, Nat.reduceMul, Nat.reduceAdd, Nat.reduceSub, Nat.reduceEqDiff, q_ltT, q_ltF, q_leT, q_leF, q_eqT, q_eqF, q_inT, q_bz0, q_bz1, b_T, b_F, true_and, and_true, if_true, if_false]
          exact a1 q z
        · rw [f_R_run_38]
          refine b_f (by rw [q_le (by omega) (by omega)]; omega) (b_t (h11 ▸ e8) (t2 _ (b_f (show ¬ (1 : Int32) = 0 by decide) ?_)))
          simp (disch := omega) only [nm, q_lit, q_add, q_sub, q_subN, q_n1, q_mul, q_div, q_nm, q_and, q_or, q_xor, q_shr, q_shl, q_cl, q_a1, q_a3, q_a7, q_a31, q_a63, q_a255, q_a15, q_a16, q_a17, q_a2, q_a4, q_a8, q_a1024, q_a65536, Nat.reduceMod, Nat.reducePow, Nat.reduceDiv, Nat.reduceMul, Nat.reduceAdd, Nat.reduceSub, Nat.reduceEqDiff, q_ltT, q_ltF, q_leT, q_leF, q_eqT, q_eqF, q_inT, q_bz0, q_bz1, b_T, b_F, true_and, and_true, if_true, if_false]
          exact a2 q z
    · have e8' : ¬ τ.1 11 = 0 := by rw [← h11]; exact e8
      refine ⟨σ, τ, j, fun q z => ?_, fun q z => ?_, h6, ?_, FrC.refl _, FrR.refl _⟩
      · rw [f_M_runUpTo_12]
        exact ⟨fun _ => z, fun _ => b_f e8 z⟩
      · rw [f_R_run_38]
        exact ⟨fun _ => z, fun _ => b_f e8' z⟩
      · exact ⟨RM0_mono (by omega) h.1, h.2⟩
