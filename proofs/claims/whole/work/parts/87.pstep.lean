/-! the pure side: steps and runs -/
theorem let_d : ∀ a, a < 8 → ∀ m, m < 128 → ∀ b, b < 64 → (((8192 * a + 64 * m + b) &&& 57407 = 24639) ↔ (a = 3 ∧ b = 63)) := by decide +kernel
theorem tst_d : ∀ a, a < 32 → ∀ m, m < 8 → ∀ b, b < 256 → (((2048 * a + 256 * m + b) &&& 1792 = 1792) ↔ m = 7) := by decide +kernel
theorem let_e {w : Nat} (h : w < 65536) : (w &&& 57407 = 24639) ↔ (w / 8192 = 3 ∧ w % 64 = 63) := by
  have := let_d (w / 8192) (by omega) (w / 64 % 128) (by omega) (w % 64) (by omega)
  rw [show 8192 * (w / 8192) + 64 * (w / 64 % 128) + w % 64 = w by omega] at this
  exact this
theorem tst_e {w : Nat} (h : w < 65536) : (w &&& 1792 = 1792) ↔ w / 256 % 8 = 7 := by
  have := tst_d (w / 2048) (by omega) (w / 256 % 8) (by omega) (w % 256) (by omega)
  rw [show 2048 * (w / 2048) + 256 * (w / 256 % 8) + w % 256 = w by omega] at this
  exact this
theorem and_le_lit (w m : Nat) : w &&& m ≤ m := Nat.and_le_right
theorem c_letsIn {σ : SS} {w : Nat} {post : Int32 → SS → Prop} (hw : w < 65536) (h1 : (w / 8192 = 3 ∧ lets w) → post (nI 1) σ) (h0 : ¬ (w / 8192 = 3 ∧ lets w) → post (nI 0) σ) : f_M_letsIn post σ (nI w) := by
  have l1 : w &&& 57407 ≤ 57407 := and_le_lit _ _
  have l2 : w &&& 1792 ≤ 1792 := and_le_lit _ _
  unfold lets at h1 h0
  by_cases c1 : w / 8192 = 3 ∧ w % 64 = 63
  · have e1 := (let_e hw).mpr c1
    by_cases c2 : w / 256 % 8 = 7
    · have e2 := (tst_e hw).mpr c2
      simp (disch := omega) only [f_M_letsIn, f_M_letsIn_15, f_M_letsIn_32, nm, q_lit, q_add, q_sub, q_subN, q_n1, q_mul, q_div, q_nm, q_and, q_or, q_xor, q_shr, q_shl, q_cl, q_a1, q_a3, q_a7, q_a31, q_a63, q_a255, q_a15, q_a16, q_a17, q_a2, q_a4, q_a8, q_a1024, q_a65536, Nat.reduceMod, Nat.reducePow, Nat.reduceDiv, Nat.reduceMul, Nat.reduceAdd, Nat.reduceSub, Nat.reduceEqDiff, q_ltT, q_ltF, q_leT, q_leF, q_eqT, q_eqF, q_inT, q_bz0, q_bz1, b_T, b_F, true_and, and_true, if_true, if_false, e1, e2]
      exact h0 (fun z => z.2.2.1 c2)
    · have e2 : ¬ (w &&& 1792 = 1792) := fun z => c2 ((tst_e hw).mp z)
      by_cases c3 : w / 64 % 4 = 1
      · simp (disch := omega) only [f_M_letsIn, f_M_letsIn_15, f_M_letsIn_32, nm, q_lit, q_add, q_sub, q_subN, q_n1, q_mul, q_div, q_nm, q_and, q_or, q_xor, q_shr, q_shl, q_cl, q_a1, q_a3, q_a7, q_a31, q_a63, q_a255, q_a15, q_a16, q_a17, q_a2, q_a4, q_a8, q_a1024, q_a65536, Nat.reduceMod, Nat.reducePow, Nat.reduceDiv, Nat.reduceMul, Nat.reduceAdd, Nat.reduceSub, Nat.reduceEqDiff, q_ltT, q_ltF, q_leT, q_leF, q_eqT, q_eqF, q_inT, q_bz0, q_bz1, b_T, b_F, true_and, and_true, if_true, if_false, e1]
        exact h1 ⟨c1.1, c1.2, c2, c3⟩
      · simp (disch := omega) only [f_M_letsIn, f_M_letsIn_15, f_M_letsIn_32, nm, q_lit, q_add, q_sub, q_subN, q_n1, q_mul, q_div, q_nm, q_and, q_or, q_xor, q_shr, q_shl, q_cl, q_a1, q_a3, q_a7, q_a31, q_a63, q_a255, q_a15, q_a16, q_a17, q_a2, q_a4, q_a8, q_a1024, q_a65536, Nat.reduceMod, Nat.reducePow, Nat.reduceDiv, Nat.reduceMul, Nat.reduceAdd, Nat.reduceSub, Nat.reduceEqDiff, q_ltT, q_ltF, q_leT, q_leF, q_eqT, q_eqF, q_inT, q_bz0, q_bz1, b_T, b_F, true_and, and_true, if_true, if_false, e1]
        exact h0 (fun z => c3 z.2.2.2)
  · have e1 : ¬ (w &&& 57407 = 24639) := fun z => c1 ((let_e hw).mp z)
    have hh := h0 (fun z => c1 ⟨z.1, z.2.1⟩)
    by_cases e2 : w &&& 1792 = 1792
    · simp (disch := omega) only [f_M_letsIn, f_M_letsIn_15, f_M_letsIn_32, nm, q_lit, q_add, q_sub, q_subN, q_n1, q_mul, q_div, q_nm, q_and, q_or, q_xor, q_shr, q_shl, q_cl, q_a1, q_a3, q_a7, q_a31, q_a63, q_a255, q_a15, q_a16, q_a17, q_a2, q_a4, q_a8, q_a1024, q_a65536, Nat.reduceMod, Nat.reducePow, Nat.reduceDiv, Nat.reduceMul, Nat.reduceAdd, Nat.reduceSub, Nat.reduceEqDiff, q_ltT, q_ltF, q_leT, q_leF, q_eqT, q_eqF, q_inT, q_bz0, q_bz1, b_T, b_F, true_and, and_true, if_true, if_false, e2]
      exact hh
    · simp (disch := omega) only [f_M_letsIn, f_M_letsIn_15, f_M_letsIn_32, nm, q_lit, q_add, q_sub, q_subN, q_n1, q_mul, q_div, q_nm, q_and, q_or, q_xor, q_shr, q_shl, q_cl, q_a1, q_a3, q_a7, q_a31, q_a63, q_a255, q_a15, q_a16, q_a17, q_a2, q_a4, q_a8, q_a1024, q_a65536, Nat.reduceMod, Nat.reducePow, Nat.reduceDiv, Nat.reduceMul, Nat.reduceAdd, Nat.reduceSub, Nat.reduceEqDiff, q_ltT, q_ltF, q_leT, q_leF, q_eqT, q_eqF, q_inT, q_bz0, q_bz1, b_T, b_F, true_and, and_true, if_true, if_false]
      exact hh
def RMc (B : Nat) (σ τ : SS) : Prop := RM0 B σ τ ∧ RPc σ τ ∧ RLet σ τ ∧ RIns σ τ
/-- the class's end of a step behind an instruction -/
def c_tl (post : SS → Prop) (u : SS) (w : Int32) : Prop := f_M_letsIn (fun r_17 σ_16 => ∃ n9, f_M_doNext_77 post n9 (sI σ_16 5 r_17) (nI 0)) (sI u 6 (u.1 6 + nI 1)) w
theorem s_tail {B w nx sk p : Nat} {u v : SS} (hB : B < 1073741824) (hw : w < 65536) (h : RM0 B u v) (hp : u.1 1 = nI p) (hi : u.1 6 = v.1 6) (hx : nx < 32768) (hs : sk ≤ 1) (hpn : p = if sk = 0 then nx else (nx + 1) % 32768) (hl1 : (w / 8192 = 3 ∧ lets w) → v.1 4 = nI 1) (hl0 : ¬ (w / 8192 = 3 ∧ lets w) → v.1 4 = nI 0) :
    ∃ u' v', ToV (fun q => c_tl q u (nI w)) u' ∧ To (fun q => f_R_step_300 q v (nI nx) (nI sk)) (nI 1) v' ∧ RMc (B + 1) u' v' ∧ FrC u u' ∧ FrR v v' ∧ v'.1 8 = v.1 8 ∧ u'.1 6 = u.1 6 + nI 1 := by
  have hp1 : p < 32768 := by rw [hpn]; split <;> omega
  have key : ∀ l : Nat, l ≤ 1 → v.1 4 = nI l → (∀ q : SS → Prop, (∃ n9, f_M_doNext_77 q n9 (sI (sI u 6 (u.1 6 + nI 1)) 5 (nI l)) (nI 0)) → c_tl q u (nI w)) → ∃ u' v', ToV (fun q => c_tl q u (nI w)) u' ∧ To (fun q => f_R_step_300 q v (nI nx) (nI sk)) (nI 1) v' ∧ RMc (B + 1) u' v' ∧ FrC u u' ∧ FrR v v' ∧ v'.1 8 = v.1 8 ∧ u'.1 6 = u.1 6 + nI 1 := by
    intro l hl hv4 hc
    have h2 : RM0 B (sI (sI u 6 (u.1 6 + nI 1)) 5 (nI l)) (sI v 1 (nI p)) := h
    obtain ⟨u2, v2, t1, t2, t3, t4, t5⟩ := s_tick hB h2
    obtain ⟨f1, f2, f3, f4, f5, f6, f7, f8⟩ := t4
    refine ⟨u2, sI v2 6 (v2.1 6 + nI 1), fun q z => hc q (t1 q z), fun q z => ?_, ⟨t3, ?_, ?_, ?_⟩, ?_, ?_, f8, f5⟩
    · have e : f_R_step_316 q v (nI p) := t2 _ z
      simp only [f_R_step_300]
      rcases Nat.le_one_iff_eq_zero_or_eq_one.mp hs with rfl | rfl
      · rw [if_pos rfl] at hpn; subst hpn
        simp (disch := omega) only [nm, q_lit, q_add, q_sub, q_subN, q_n1, q_mul, q_div, q_nm, q_and, q_or, q_xor, q_shr, q_shl, q_cl, q_a1, q_a3, q_a7, q_a31, q_a63, q_a255, q_a15, q_a16, q_a17, q_a2, q_a4, q_a8, q_a1024, q_a65536, Nat.reduceMod, Nat.reducePow, Nat.reduceDiv, Nat.reduceMul, Nat.reduceAdd, Nat.reduceSub, Nat.reduceEqDiff, q_ltT, q_ltF, q_leT, q_leF, q_eqT, q_eqF, q_inT, q_bz0, q_bz1, b_T, b_F, true_and, and_true, if_true, if_false]; exact e
      · rw [if_neg (by omega)] at hpn; subst hpn
        simp (disch := omega) only [nm, q_lit, q_add, q_sub, q_subN, q_n1, q_mul, q_div, q_nm, q_and, q_or, q_xor, q_shr, q_shl, q_cl, q_a1, q_a3, q_a7, q_a31, q_a63, q_a255, q_a15, q_a16, q_a17, q_a2, q_a4, q_a8, q_a1024, q_a65536, Nat.reduceMod, Nat.reducePow, Nat.reduceDiv, Nat.reduceMul, Nat.reduceAdd, Nat.reduceSub, Nat.reduceEqDiff, q_ltT, q_ltF, q_leT, q_leF, q_eqT, q_eqF, q_inT, q_bz0, q_bz1, b_T, b_F, true_and, and_true, if_true, if_false]; exact e
    · refine ⟨?_, p, hp1, ?_⟩
      · exact (f3.trans hp).trans (f6.symm)
      · exact f3.trans hp
    · refine ⟨?_, ?_⟩
      · exact f4.trans (hv4.symm.trans t5.symm)
      · rw [f4]; exact bz_of hl
    · show u2.1 6 = v2.1 6 + nI 1
      rw [f5, f7]
      show u.1 6 + nI 1 = v.1 6 + nI 1
      rw [hi]
    · exact (((FrC.refl _).sI (by omega) _).sI (by omega) _).trans f1
    · exact (((FrR.refl _).sI (by omega) _).trans f2).sI (by omega) _
  by_cases hl : w / 8192 = 3 ∧ lets w
  · exact key 1 (by omega) (hl1 hl) (fun q z => c_letsIn hw (fun _ => z) (fun n => absurd hl n))
  · exact key 0 (by omega) (hl0 hl) (fun q z => c_letsIn hw (fun n => absurd n hl) (fun _ => z))
/-- a step that came to nothing, and one that did -/
def Out (B : Nat) (σ τ : SS) (r : Nat) (u v : SS) : Prop := FrC σ u ∧ FrR τ v ∧ (r = 1 → RMc (B + 1) u v ∧ v.1 8 = nI 0 ∧ u.1 6 = σ.1 6 + nI 1) ∧ (r = 0 → RMc (B + 1) u (sI v 11 (nI 2)) ∧ u.1 8 = nI 2 ∧ u.1 6 = σ.1 6)
theorem RM0_mono {B B' : Nat} (h : B ≤ B') {σ τ : SS} (hR : RM0 B σ τ) : RM0 B' σ τ := by
  obtain ⟨h1, h2, h6, h7, ⟨c, hc, h8⟩⟩ := hR
  exact ⟨h1, h2, h6, h7, ⟨c, Nat.le_trans hc h, h8⟩⟩
theorem c_goOn {σ : SS} {p r : Nat} {post : SS → Prop} (hp : p < 32768) (hr : r ≤ 1) (hv : σ.1 1 = nI p) (h : post (sI σ 1 (nI (if r = 0 then (p + 1) % 32768 else ((p + 1) % 32768 + 1) % 32768)))) : f_M_goOn post σ (nI r) := by
  simp only [f_M_goOn, f_M_goOn_14]
  rcases Nat.le_one_iff_eq_zero_or_eq_one.mp hr with rfl | rfl
  · rw [if_pos rfl] at h
    simp (disch := omega) only [nm, q_lit, q_add, q_sub, q_subN, q_n1, q_mul, q_div, q_nm, q_and, q_or, q_xor, q_shr, q_shl, q_cl, q_a1, q_a3, q_a7, q_a31, q_a63, q_a255, q_a15, q_a16, q_a17, q_a2, q_a4, q_a8, q_a1024, q_a65536, Nat.reduceMod, Nat.reducePow, Nat.reduceDiv, Nat.reduceMul, Nat.reduceAdd, Nat.reduceSub, Nat.reduceEqDiff, q_ltT, q_ltF, q_leT, q_leF, q_eqT, q_eqF, q_inT, q_bz0, q_bz1, b_T, b_F, true_and, and_true, if_true, if_false, hv]; exact h
  · rw [if_neg (by omega), show ((p + 1) % 32768 + 1) % 32768 = (p + 2) % 32768 by omega] at h
    simp (disch := omega) only [nm, q_lit, q_add, q_sub, q_subN, q_n1, q_mul, q_div, q_nm, q_and, q_or, q_xor, q_shr, q_shl, q_cl, q_a1, q_a3, q_a7, q_a31, q_a63, q_a255, q_a15, q_a16, q_a17, q_a2, q_a4, q_a8, q_a1024, q_a65536, Nat.reduceMod, Nat.reducePow, Nat.reduceDiv, Nat.reduceMul, Nat.reduceAdd, Nat.reduceSub, Nat.reduceEqDiff, q_ltT, q_ltF, q_leT, q_leF, q_eqT, q_eqF, q_inT, q_bz0, q_bz1, b_T, b_F, true_and, and_true, if_true, if_false, hv]; exact h
theorem s_calc {B w p : Nat} {σ τ : SS} (hB : B < 1073741824) (hw : w < 65536) (hw2 : 32768 ≤ w) (h : RM0 B σ τ) (hp : p < 32768) (h1 : σ.1 1 = nI p) (h6 : σ.1 6 = τ.1 6) (h4 : τ.1 4 = nI 0) :
    ∃ u v, ToV (fun q => f_M_calculate (fun r_10 σ_9 => f_M_goOn (fun σ_11 => c_tl q σ_11 (nI w)) σ_9 r_10) σ (nI w)) u ∧ To (fun q => f_R_reckons (fun r_20 σ_19 => f_R_step_300 q σ_19 (nI ((p + 1) % 32768)) r_20) τ (nI w)) (nI 1) v ∧ RMc (B + 1) u v ∧ FrC σ u ∧ FrR τ v ∧ v.1 8 = τ.1 8 ∧ u.1 6 = σ.1 6 + nI 1 := by
  have h0 := h
  obtain ⟨⟨m1, m2, m3, m4⟩, ⟨r1, r2, _⟩, _⟩ := h0
  obtain ⟨s, hs, vs⟩ := m4 (w / 8192 % 4)
  obtain ⟨a, ha, va⟩ := m4 (w / 2048 % 4)
  obtain ⟨c, hc, vc⟩ := bz_N r2
  have vs' : τ.2.1 2 (w / 8192 % 4) = nI s := by rw [← m3]; exact vs
  have va' : τ.2.1 2 (w / 2048 % 4) = nI a := by rw [← m3]; exact va
  have vc' := r1.symm.trans vc
  have hsk := cSkp_le (w % 8) (cC w s a c) (cR w s a c)
  have nl : ¬ (w / 8192 = 3 ∧ lets w) := fun z => by have := z.1; omega
  rcases Nat.mod_two_eq_zero_or_one (w / 8) with z8 | z8
  · have h' : RM0 B (sI (sA σ 3 (w / 2048 % 4) (nI (cR w s a c))) 0 (nI (cC w s a c))) (sI (sA τ 2 (w / 2048 % 4) (nI (cR w s a c))) 0 (nI (cC w s a c))) := R0_car (R0_acc h (cR_lt hc)) (cC_le hc)
    obtain ⟨u, v, t1, t2, t3, t4, t5, t6⟩ := s_tail (sk := cSkp (w % 8) (cC w s a c) (cR w s a c)) (nx := (p + 1) % 32768) hB hw (R0_x h' (nI (if cSkp (w % 8) (cC w s a c) (cR w s a c) = 0 then (p + 1) % 32768 else ((p + 1) % 32768 + 1) % 32768))).1 rfl h6 (by omega) hsk rfl (fun z => absurd z nl) (fun _ => h4)
    refine ⟨u, v, fun q z => c_calculate hw hs ha hc vs va vc (fun _ => c_goOn hp hsk h1 (t1 q z)) (fun n => by omega), fun q z => r_reckons hw hs ha hc vs' va' vc' (fun _ => t2 q z) (fun n => by omega), t3, ((((FrC.refl _).sA (by omega) _ _).sI (by omega) _).sI (by omega) _).trans t4, (((FrR.refl _).sA (by omega) _ _).sI (by omega) _).trans t5, t6⟩
  · obtain ⟨u, v, t1, t2, t3, t4, t5, t6⟩ := s_tail (sk := cSkp (w % 8) (cC w s a c) (cR w s a c)) (nx := (p + 1) % 32768) hB hw (R0_x h (nI (if cSkp (w % 8) (cC w s a c) (cR w s a c) = 0 then (p + 1) % 32768 else ((p + 1) % 32768 + 1) % 32768))).1 rfl h6 (by omega) hsk rfl (fun z => absurd z nl) (fun _ => h4)
    refine ⟨u, v, fun q z => c_calculate hw hs ha hc vs va vc (fun n => by omega) (fun _ => c_goOn hp hsk h1 (t1 q z)), fun q z => r_reckons hw hs ha hc vs' va' vc' (fun n => by omega) (fun _ => t2 q z), t3, ((FrC.refl _).sI (by omega) _).trans t4, t5, t6⟩
theorem s_oper {B w p : Nat} {σ τ : SS} (hB : B < 1073741824) (hw : w < 65536) (hw2 : w / 8192 = 3) (h : RM0 B σ τ) (hp : p < 32768) (h1 : σ.1 1 = nI p) (h6 : σ.1 6 = τ.1 6) (h4 : τ.1 4 = nI 0) :
    ∃ u v, ToV (fun q => f_M_operate (fun r_6 σ_5 => f_M_goOn (fun σ_7 => c_tl q σ_7 (nI w)) σ_5 r_6) σ (nI w)) u ∧ To (fun q => f_R_devices (fun r_18 σ_17 => f_R_step_300 q σ_17 (nI ((p + 1) % 32768)) r_18) τ (nI w)) (nI 1) v ∧ RMc (B + 1) u v ∧ FrC σ u ∧ FrR τ v ∧ v.1 8 = τ.1 8 ∧ u.1 6 = σ.1 6 + nI 1 := by
  obtain ⟨r, u0, v0, hr, o1, o2, o3, ⟨f1, f2, f3, f4, f5, f6, f7, f8⟩, l1, l0⟩ := s_operate hw h
  obtain ⟨u, v, t1, t2, t3, t4, t5, t6⟩ := s_tail (sk := r) (nx := (p + 1) % 32768) hB hw (R0_x o3 (nI (if r = 0 then (p + 1) % 32768 else ((p + 1) % 32768 + 1) % 32768))).1 rfl (f5.trans (h6.trans f7.symm)) (by omega) hr rfl (fun z => l1 z.2) (fun z => (l0 (fun q => z ⟨hw2, q⟩)).trans h4)
  exact ⟨u, v, fun q z => o1 _ (c_goOn hp hr (f3.trans h1) (t1 q z)), fun q z => o2 _ (t2 q z), t3, (f1.sI (by omega) _).trans t4, f2.trans t5, t6.1.trans f8, by rw [t6.2]; show u0.1 6 + nI 1 = _; rw [f5]⟩
theorem c_load {σ : SS} {e : Nat} {post : Int32 → SS → Prop} (he : e < 32768) (h : post (σ.2.1 2 e) σ) : f_M_load post σ (nI e) := by
  simp (disch := omega) only [f_M_load, nm, q_lit, q_add, q_sub, q_subN, q_n1, q_mul, q_div, q_nm, q_and, q_or, q_xor, q_shr, q_shl, q_cl, q_a1, q_a3, q_a7, q_a31, q_a63, q_a255, q_a15, q_a16, q_a17, q_a2, q_a4, q_a8, q_a1024, q_a65536, Nat.reduceMod, Nat.reducePow, Nat.reduceDiv, Nat.reduceMul, Nat.reduceAdd, Nat.reduceSub, Nat.reduceEqDiff, q_ltT, q_ltF, q_leT, q_leF, q_eqT, q_eqF, q_inT, q_bz0, q_bz1, b_T, b_F, true_and, and_true, if_true, if_false, Nat.mod_eq_of_lt he]; exact h
theorem c_store {σ : SS} {e : Nat} {x : Int32} {post : SS → Prop} (he : e < 32768) (h : post (sA σ 2 e x)) : f_M_store post σ (nI e) x := by
  simp (disch := omega) only [f_M_store, nm, q_lit, q_add, q_sub, q_subN, q_n1, q_mul, q_div, q_nm, q_and, q_or, q_xor, q_shr, q_shl, q_cl, q_a1, q_a3, q_a7, q_a31, q_a63, q_a255, q_a15, q_a16, q_a17, q_a2, q_a4, q_a8, q_a1024, q_a65536, Nat.reduceMod, Nat.reducePow, Nat.reduceDiv, Nat.reduceMul, Nat.reduceAdd, Nat.reduceSub, Nat.reduceEqDiff, q_ltT, q_ltF, q_leT, q_leF, q_eqT, q_eqF, q_inT, q_bz0, q_bz1, b_T, b_F, true_and, and_true, if_true, if_false, Nat.mod_eq_of_lt he]; exact h
/-- a memory instruction whose address is known -/
theorem s_mem {B w p e : Nat} {σ τ : SS} (hB : B < 1073741824) (hw : w < 24576) (he : e < 32768) (h : RM0 B σ τ) (hp : p < 32768) (h1 : σ.1 1 = nI p) (h6 : σ.1 6 = τ.1 6) (h4 : τ.1 4 = nI 0) :
    ∃ u v, ToV (fun q => f_M_useMemory (fun σ_3 => c_tl q σ_3 (nI w)) σ (nI (w / 2048)) (nI e)) u ∧ To (fun q => (br ((nI w / 8192) = 1) (vp_in (nI e) 32768 ∧ vp_in (nI (w / 2048 % 4)) 4 ∧ nm (sA τ 2 (nI (w / 2048 % 4)).toNatClampNeg (τ.2.1 1 (nI e).toNatClampNeg)) fun σ_15 => f_R_step_300 q σ_15 (nI ((p + 1) % 32768)) 0) (br ((nI w / 8192) = 2) (vp_in (nI (w / 2048 % 4)) 4 ∧ vp_in (nI e) 32768 ∧ nm (sA τ 1 (nI e).toNatClampNeg (τ.2.1 2 (nI (w / 2048 % 4)).toNatClampNeg)) fun σ_14 => f_R_step_300 q σ_14 (nI ((p + 1) % 32768)) 0) (br (2 ≤ (nI (w / 2048 % 4))) (vp_in (nI e) 32768 ∧ br ((nI (w / 2048 % 4)) = 2) (f_R_step_278 q τ (nI ((p + 1) % 32768)) (nI e) 1 (τ.2.1 1 (nI e).toNatClampNeg) (nI e)) (f_R_step_278 q τ (nI ((p + 1) % 32768)) (nI e) 65535 (τ.2.1 1 (nI e).toNatClampNeg) (nI e))) (br ((nI (w / 2048 % 4)) = 1) (vp_in (3 : Int32) 4 ∧ nm (sA τ 2 (3 : Int32).toNatClampNeg (nI ((p + 1) % 32768))) fun σ_13 => f_R_step_247 q σ_13 0 (nI e)) (f_R_step_247 q τ 0 (nI e))))))) (nI 1) v ∧ RMc (B + 1) u v ∧ FrC σ u ∧ FrR τ v ∧ v.1 8 = τ.1 8 ∧ u.1 6 = σ.1 6 + nI 1 := by
  have h0 := h
  obtain ⟨⟨m1, m2, m3, m4⟩, _⟩ := h0
  obtain ⟨x, hx, vx⟩ := m2 e
  have vx' : τ.2.1 1 e = nI x := by rw [← m1]; exact vx
  obtain ⟨y, hy, vy⟩ := m4 (w / 2048 % 4)
  have vy' : τ.2.1 2 (w / 2048 % 4) = nI y := by rw [← m3]; exact vy
  have nl : ¬ (w / 8192 = 3 ∧ lets w) := fun z => by have := z.1; omega
  have hq : w / 2048 = 0 ∨ w / 2048 = 1 ∨ w / 2048 = 2 ∨ w / 2048 = 3 ∨ (w / 8192 = 1 ∧ 4 ≤ w / 2048 ∧ w / 2048 < 8) ∨ (w / 8192 = 2 ∧ 8 ≤ w / 2048) := by omega
  have cnt : ∀ (d : Nat) (cd : Int32), (d = 1 ∧ cd = 1 ∨ d = 65535 ∧ cd = -1) → (∀ q : SS → Prop, f_M_countAt (fun r_12 σ_11 => br (r_12 = 0) (f_M_goOn (fun σ_1 => c_tl q σ_1 (nI w)) σ_11 1) (f_M_goOn (fun σ_1 => c_tl q σ_1 (nI w)) σ_11 0)) σ (nI e) cd → f_M_useMemory (fun σ_3 => c_tl q σ_3 (nI w)) σ (nI (w / 2048)) (nI e)) → ∃ u v, ToV (fun q => f_M_useMemory (fun σ_3 => c_tl q σ_3 (nI w)) σ (nI (w / 2048)) (nI e)) u ∧ To (fun q => f_R_step_278 q τ (nI ((p + 1) % 32768)) (nI e) (nI d) (nI x) (nI e)) (nI 1) v ∧ RMc (B + 1) u v ∧ FrC σ u ∧ FrR τ v ∧ v.1 8 = τ.1 8 ∧ u.1 6 = σ.1 6 + nI 1 := by
    intro d cd hd hc
    have hv2 : (x + d) % 65536 < 65536 := by omega
    have h' : RM0 B (sA σ 2 e (nI ((x + d) % 65536))) (sA τ 1 e (nI ((x + d) % 65536))) := by
      rw [sA_M, sA_M, ← m1]
      exact R0_mem h (upd_W m2 e _ hv2)
    have hcv : (nI x + cd) &&& 65535 = nI ((x + d) % 65536) := by
      rcases hd with ⟨rfl, rfl⟩ | ⟨rfl, rfl⟩
      · simp (disch := omega) only [nm, q_lit, q_add, q_sub, q_subN, q_n1, q_mul, q_div, q_nm, q_and, q_or, q_xor, q_shr, q_shl, q_cl, q_a1, q_a3, q_a7, q_a31, q_a63, q_a255, q_a15, q_a16, q_a17, q_a2, q_a4, q_a8, q_a1024, q_a65536, Nat.reduceMod, Nat.reducePow, Nat.reduceDiv, Nat.reduceMul, Nat.reduceAdd, Nat.reduceSub, Nat.reduceEqDiff, q_ltT, q_ltF, q_leT, q_leF, q_eqT, q_eqF, q_inT, q_bz0, q_bz1, b_T, b_F, true_and, and_true, if_true, if_false]
      · simp (disch := omega) only [nm, q_lit, q_add, q_sub, q_subN, q_n1, q_mul, q_div, q_nm, q_and, q_or, q_xor, q_shr, q_shl, q_cl, q_a1, q_a3, q_a7, q_a31, q_a63, q_a255, q_a15, q_a16, q_a17, q_a2, q_a4, q_a8, q_a1024, q_a65536, Nat.reduceMod, Nat.reducePow, Nat.reduceDiv, Nat.reduceMul, Nat.reduceAdd, Nat.reduceSub, Nat.reduceEqDiff, q_ltT, q_ltF, q_leT, q_leF, q_eqT, q_eqF, q_inT, q_bz0, q_bz1, b_T, b_F, true_and, and_true, if_true, if_false]
    have hsk : (if (x + d) % 65536 = 0 then 1 else 0) ≤ 1 := by split <;> omega
    obtain ⟨u, v, t1, t2, t3, t4, t5, t6⟩ := s_tail (sk := if (x + d) % 65536 = 0 then 1 else 0) (nx := (p + 1) % 32768) hB (by omega) (R0_x h' (nI (if (if (x + d) % 65536 = 0 then 1 else 0) = 0 then (p + 1) % 32768 else ((p + 1) % 32768 + 1) % 32768))).1 rfl h6 (by omega) hsk rfl (fun z => absurd z nl) (fun _ => h4)
    refine ⟨u, v, fun q z => hc q ?_, fun q z => ?_, t3, (((FrC.refl _).sA (by omega) _ _).sI (by omega) _).trans t4, ((FrR.refl _).sA (by omega) _ _).trans t5, t6⟩
    · simp only [f_M_countAt]
      refine c_load he ?_
      rw [vx, hcv]
      refine c_store he ?_
      by_cases z0 : (x + d) % 65536 = 0
      · refine b_t (by rw [z0]; rfl) (c_goOn (r := 1) (p := p) hp (by omega) h1 ?_)
        have tz := t1 q z
        simpa only [z0, if_true, Nat.reduceEqDiff, if_false] using tz
      · refine b_f (by rw [q_lit, q_eq (by omega) (by omega)]; exact z0) (c_goOn (r := 0) (p := p) hp (by omega) h1 ?_)
        have tz := t1 q z
        simpa only [z0, if_true, if_false] using tz
    · have tz := t2 q z
      by_cases z0 : (x + d) % 65536 = 0
      · simp only [z0, if_true] at tz
        simp (disch := omega) only [f_R_step_278, f_R_step_298, nm, q_lit, q_add, q_sub, q_subN, q_n1, q_mul, q_div, q_nm, q_and, q_or, q_xor, q_shr, q_shl, q_cl, q_a1, q_a3, q_a7, q_a31, q_a63, q_a255, q_a15, q_a16, q_a17, q_a2, q_a4, q_a8, q_a1024, q_a65536, Nat.reduceMod, Nat.reducePow, Nat.reduceDiv, Nat.reduceMul, Nat.reduceAdd, Nat.reduceSub, Nat.reduceEqDiff, q_ltT, q_ltF, q_leT, q_leF, q_eqT, q_eqF, q_inT, q_bz0, q_bz1, b_T, b_F, true_and, and_true, if_true, if_false, sI_1, sI_2, sA_1, sA_2, sA_3, u_at, z0]
        exact tz
      · simp only [z0, if_false] at tz
        simp (disch := omega) only [f_R_step_278, f_R_step_298, nm, q_lit, q_add, q_sub, q_subN, q_n1, q_mul, q_div, q_nm, q_and, q_or, q_xor, q_shr, q_shl, q_cl, q_a1, q_a3, q_a7, q_a31, q_a63, q_a255, q_a15, q_a16, q_a17, q_a2, q_a4, q_a8, q_a1024, q_a65536, Nat.reduceMod, Nat.reducePow, Nat.reduceDiv, Nat.reduceMul, Nat.reduceAdd, Nat.reduceSub, Nat.reduceEqDiff, q_ltT, q_ltF, q_leT, q_leF, q_eqT, q_eqF, q_inT, q_bz0, q_bz1, b_T, b_F, true_and, and_true, if_true, if_false, sI_1, sI_2, sA_1, sA_2, sA_3, u_at]
        exact tz
  rcases hq with c | c | c | c | ⟨c, c2, c3⟩ | ⟨c, c2⟩
  · obtain ⟨u, v, t1, t2, t3, t4, t5, t6⟩ := s_tail (sk := 0) (nx := e) (p := e) hB (by omega) (R0_x h (nI e)).1 rfl h6 he (by omega) rfl (fun z => absurd z nl) (fun _ => h4)
    refine ⟨u, v, fun q z => ?_, fun q z => ?_, t3, ((FrC.refl _).sI (by omega) _).trans t4, t5, t6⟩
    · simp (disch := omega) only [f_M_useMemory, nm, q_lit, q_add, q_sub, q_subN, q_n1, q_mul, q_div, q_nm, q_and, q_or, q_xor, q_shr, q_shl, q_cl, q_a1, q_a3, q_a7, q_a31, q_a63, q_a255, q_a15, q_a16, q_a17, q_a2, q_a4, q_a8, q_a1024, q_a65536, Nat.reduceMod, Nat.reducePow, Nat.reduceDiv, Nat.reduceMul, Nat.reduceAdd, Nat.reduceSub, Nat.reduceEqDiff, q_ltT, q_ltF, q_leT, q_leF, q_eqT, q_eqF, q_inT, q_bz0, q_bz1, b_T, b_F, true_and, and_true, if_true, if_false, c]; exact t1 q z
    · simp (disch := omega) only [f_R_step_247, nm, q_lit, q_add, q_sub, q_subN, q_n1, q_mul, q_div, q_nm, q_and, q_or, q_xor, q_shr, q_shl, q_cl, q_a1, q_a3, q_a7, q_a31, q_a63, q_a255, q_a15, q_a16, q_a17, q_a2, q_a4, q_a8, q_a1024, q_a65536, Nat.reduceMod, Nat.reducePow, Nat.reduceDiv, Nat.reduceMul, Nat.reduceAdd, Nat.reduceSub, Nat.reduceEqDiff, q_ltT, q_ltF, q_leT, q_leF, q_eqT, q_eqF, q_inT, q_bz0, q_bz1, b_T, b_F, true_and, and_true, if_true, if_false, c]; exact t2 q z
  · obtain ⟨u, v, t1, t2, t3, t4, t5, t6⟩ := s_tail (sk := 0) (nx := e) (p := e) hB (by omega) (R0_x (R0_acc (i := 3) h (show (p + 1) % 32768 < 65536 by omega)) (nI e)).1 rfl h6 he (by omega) rfl (fun z => absurd z nl) (fun _ => h4)
    refine ⟨u, v, fun q z => ?_, fun q z => ?_, t3, (((FrC.refl _).sA (by omega) _ _).sI (by omega) _).trans t4, ((FrR.refl _).sA (by omega) _ _).trans t5, t6⟩
    · simp (disch := omega) only [f_M_useMemory, nm, q_lit, q_add, q_sub, q_subN, q_n1, q_mul, q_div, q_nm, q_and, q_or, q_xor, q_shr, q_shl, q_cl, q_a1, q_a3, q_a7, q_a31, q_a63, q_a255, q_a15, q_a16, q_a17, q_a2, q_a4, q_a8, q_a1024, q_a65536, Nat.reduceMod, Nat.reducePow, Nat.reduceDiv, Nat.reduceMul, Nat.reduceAdd, Nat.reduceSub, Nat.reduceEqDiff, q_ltT, q_ltF, q_leT, q_leF, q_eqT, q_eqF, q_inT, q_bz0, q_bz1, b_T, b_F, true_and, and_true, if_true, if_false, c, h1]; exact t1 q z
    · simp (disch := omega) only [f_R_step_247, nm, q_lit, q_add, q_sub, q_subN, q_n1, q_mul, q_div, q_nm, q_and, q_or, q_xor, q_shr, q_shl, q_cl, q_a1, q_a3, q_a7, q_a31, q_a63, q_a255, q_a15, q_a16, q_a17, q_a2, q_a4, q_a8, q_a1024, q_a65536, Nat.reduceMod, Nat.reducePow, Nat.reduceDiv, Nat.reduceMul, Nat.reduceAdd, Nat.reduceSub, Nat.reduceEqDiff, q_ltT, q_ltF, q_leT, q_leF, q_eqT, q_eqF, q_inT, q_bz0, q_bz1, b_T, b_F, true_and, and_true, if_true, if_false, c]; exact t2 q z
  · obtain ⟨u, v, t1, t2, t3⟩ := cnt 1 1 (Or.inl ⟨rfl, rfl⟩) (fun q z => by simp (disch := omega) only [f_M_useMemory, f_M_useMemory_79, nm, q_lit, q_add, q_sub, q_subN, q_n1, q_mul, q_div, q_nm, q_and, q_or, q_xor, q_shr, q_shl, q_cl, q_a1, q_a3, q_a7, q_a31, q_a63, q_a255, q_a15, q_a16, q_a17, q_a2, q_a4, q_a8, q_a1024, q_a65536, Nat.reduceMod, Nat.reducePow, Nat.reduceDiv, Nat.reduceMul, Nat.reduceAdd, Nat.reduceSub, Nat.reduceEqDiff, q_ltT, q_ltF, q_leT, q_leF, q_eqT, q_eqF, q_inT, q_bz0, q_bz1, b_T, b_F, true_and, and_true, if_true, if_false, c] at z ⊢; exact z)
    refine ⟨u, v, t1, fun q z => ?_, t3⟩
    simp (disch := omega) only [nm, q_lit, q_add, q_sub, q_subN, q_n1, q_mul, q_div, q_nm, q_and, q_or, q_xor, q_shr, q_shl, q_cl, q_a1, q_a3, q_a7, q_a31, q_a63, q_a255, q_a15, q_a16, q_a17, q_a2, q_a4, q_a8, q_a1024, q_a65536, Nat.reduceMod, Nat.reducePow, Nat.reduceDiv, Nat.reduceMul, Nat.reduceAdd, Nat.reduceSub, Nat.reduceEqDiff, q_ltT, q_ltF, q_leT, q_leF, q_eqT, q_eqF, q_inT, q_bz0, q_bz1, b_T, b_F, true_and, and_true, if_true, if_false, c, vx']; exact t2 q z
  · obtain ⟨u, v, t1, t2, t3⟩ := cnt 65535 (-1) (Or.inr ⟨rfl, rfl⟩) (fun q z => by simp (disch := omega) only [f_M_useMemory, f_M_useMemory_100, nm, q_lit, q_add, q_sub, q_subN, q_n1, q_mul, q_div, q_nm, q_and, q_or, q_xor, q_shr, q_shl, q_cl, q_a1, q_a3, q_a7, q_a31, q_a63, q_a255, q_a15, q_a16, q_a17, q_a2, q_a4, q_a8, q_a1024, q_a65536, Nat.reduceMod, Nat.reducePow, Nat.reduceDiv, Nat.reduceMul, Nat.reduceAdd, Nat.reduceSub, Nat.reduceEqDiff, q_ltT, q_ltF, q_leT, q_leF, q_eqT, q_eqF, q_inT, q_bz0, q_bz1, b_T, b_F, true_and, and_true, if_true, if_false, c] at z ⊢; exact z)
    refine ⟨u, v, t1, fun q z => ?_, t3⟩
    simp (disch := omega) only [nm, q_lit, q_add, q_sub, q_subN, q_n1, q_mul, q_div, q_nm, q_and, q_or, q_xor, q_shr, q_shl, q_cl, q_a1, q_a3, q_a7, q_a31, q_a63, q_a255, q_a15, q_a16, q_a17, q_a2, q_a4, q_a8, q_a1024, q_a65536, Nat.reduceMod, Nat.reducePow, Nat.reduceDiv, Nat.reduceMul, Nat.reduceAdd, Nat.reduceSub, Nat.reduceEqDiff, q_ltT, q_ltF, q_leT, q_leF, q_eqT, q_eqF, q_inT, q_bz0, q_bz1, b_T, b_F, true_and, and_true, if_true, if_false, c, vx']; exact t2 q z
  · obtain ⟨u, v, t1, t2, t3, t4, t5, t6⟩ := s_tail (sk := 0) (nx := (p + 1) % 32768) (p := (p + 1) % 32768) hB (by omega) (R0_x (R0_acc (i := w / 2048 % 4) h hx) (nI ((p + 1) % 32768))).1 rfl h6 (by omega) (by omega) rfl (fun z => absurd z nl) (fun _ => h4)
    refine ⟨u, v, fun q z => ?_, fun q z => ?_, t3, (((FrC.refl _).sA (by omega) _ _).sI (by omega) _).trans t4, ((FrR.refl _).sA (by omega) _ _).trans t5, t6⟩
    · simp (disch := omega) only [f_M_useMemory, f_M_moveWord, f_M_moveWord_35, nm, q_lit, q_add, q_sub, q_subN, q_n1, q_mul, q_div, q_nm, q_and, q_or, q_xor, q_shr, q_shl, q_cl, q_a1, q_a3, q_a7, q_a31, q_a63, q_a255, q_a15, q_a16, q_a17, q_a2, q_a4, q_a8, q_a1024, q_a65536, Nat.reduceMod, Nat.reducePow, Nat.reduceDiv, Nat.reduceMul, Nat.reduceAdd, Nat.reduceSub, Nat.reduceEqDiff, q_ltT, q_ltF, q_leT, q_leF, q_eqT, q_eqF, q_inT, q_bz0, q_bz1, b_T, b_F, true_and, and_true, if_true, if_false]
      refine c_load he ?_
      simp (disch := omega) only [nm, q_lit, q_add, q_sub, q_subN, q_n1, q_mul, q_div, q_nm, q_and, q_or, q_xor, q_shr, q_shl, q_cl, q_a1, q_a3, q_a7, q_a31, q_a63, q_a255, q_a15, q_a16, q_a17, q_a2, q_a4, q_a8, q_a1024, q_a65536, Nat.reduceMod, Nat.reducePow, Nat.reduceDiv, Nat.reduceMul, Nat.reduceAdd, Nat.reduceSub, Nat.reduceEqDiff, q_ltT, q_ltF, q_leT, q_leF, q_eqT, q_eqF, q_inT, q_bz0, q_bz1, b_T, b_F, true_and, and_true, if_true, if_false, vx]
      exact c_goOn (r := 0) hp (by omega) h1 (t1 q z)
    · simp (disch := omega) only [nm, q_lit, q_add, q_sub, q_subN, q_n1, q_mul, q_div, q_nm, q_and, q_or, q_xor, q_shr, q_shl, q_cl, q_a1, q_a3, q_a7, q_a31, q_a63, q_a255, q_a15, q_a16, q_a17, q_a2, q_a4, q_a8, q_a1024, q_a65536, Nat.reduceMod, Nat.reducePow, Nat.reduceDiv, Nat.reduceMul, Nat.reduceAdd, Nat.reduceSub, Nat.reduceEqDiff, q_ltT, q_ltF, q_leT, q_leF, q_eqT, q_eqF, q_inT, q_bz0, q_bz1, b_T, b_F, true_and, and_true, if_true, if_false, c, vx']; exact t2 q z
  · have h' : RM0 B (sA σ 2 e (nI y)) (sA τ 1 e (nI y)) := by
      rw [sA_M, sA_M, ← m1]
      exact R0_mem h (upd_W m2 e _ hy)
    obtain ⟨u, v, t1, t2, t3, t4, t5, t6⟩ := s_tail (sk := 0) (nx := (p + 1) % 32768) (p := (p + 1) % 32768) hB (by omega) (R0_x h' (nI ((p + 1) % 32768))).1 rfl h6 (by omega) (by omega) rfl (fun z => absurd z nl) (fun _ => h4)
    refine ⟨u, v, fun q z => ?_, fun q z => ?_, t3, (((FrC.refl _).sA (by omega) _ _).sI (by omega) _).trans t4, ((FrR.refl _).sA (by omega) _ _).trans t5, t6⟩
    · simp (disch := omega) only [f_M_useMemory, f_M_moveWord, f_M_moveWord_35, nm, q_lit, q_add, q_sub, q_subN, q_n1, q_mul, q_div, q_nm, q_and, q_or, q_xor, q_shr, q_shl, q_cl, q_a1, q_a3, q_a7, q_a31, q_a63, q_a255, q_a15, q_a16, q_a17, q_a2, q_a4, q_a8, q_a1024, q_a65536, Nat.reduceMod, Nat.reducePow, Nat.reduceDiv, Nat.reduceMul, Nat.reduceAdd, Nat.reduceSub, Nat.reduceEqDiff, q_ltT, q_ltF, q_leT, q_leF, q_eqT, q_eqF, q_inT, q_bz0, q_bz1, b_T, b_F, true_and, and_true, if_true, if_false, vy]
      refine c_store he ?_
      exact c_goOn (r := 0) hp (by omega) h1 (t1 q z)
    · simp (disch := omega) only [nm, q_lit, q_add, q_sub, q_subN, q_n1, q_mul, q_div, q_nm, q_and, q_or, q_xor, q_shr, q_shl, q_cl, q_a1, q_a3, q_a7, q_a31, q_a63, q_a255, q_a15, q_a16, q_a17, q_a2, q_a4, q_a8, q_a1024, q_a65536, Nat.reduceMod, Nat.reducePow, Nat.reduceDiv, Nat.reduceMul, Nat.reduceAdd, Nat.reduceSub, Nat.reduceEqDiff, q_ltT, q_ltF, q_leT, q_leF, q_eqT, q_eqF, q_inT, q_bz0, q_bz1, b_T, b_F, true_and, and_true, if_true, if_false, c, vy']; exact t2 q z
