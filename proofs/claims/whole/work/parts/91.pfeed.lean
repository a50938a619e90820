/-! the pure side: feed -/
theorem y_low (y : Int32) : ∃ c, c < 256 ∧ y &&& nI 255 = nI c ∧ y.toInt8.toInt32 = by8 c := by
  have e : y = nI y.toBitVec.toNat := by
    apply Int32.toBitVec_inj.1
    show y.toBitVec = BitVec.ofNat 32 y.toBitVec.toNat
    simp
  refine ⟨y.toBitVec.toNat % 256, Nat.mod_lt _ (by omega), ?_, ?_⟩
  · rw [e, q_and, q_a255]
    congr 1
    rw [← e]
  · unfold by8
    have e2 : ∀ m : Nat, (nI m).toInt8 = Int8.ofNat m := fun m => Int32.toInt8_ofNat'
    have e3 : ∀ m : Nat, Int8.ofNat m = Int8.ofNat (m % 256) := by
      intro m
      apply Int8.toBitVec_inj.1
      show BitVec.ofNat 8 m = BitVec.ofNat 8 (m % 256)
      apply BitVec.eq_of_toNat_eq
      simp
    rw [e2, ← e3, ← e2, ← e]
theorem nar_b (y : Int32) : vp_nar .byte (y.toInt8.toInt32) = y.toInt8.toInt32 := by
  show (y.toInt8.toInt32).toInt8.toInt32 = y.toInt8.toInt32
  rw [Int8.toInt8_toInt32]
theorem setM_sI (σ : SS) (k r : Nat) (v : Int32) (f : Nat → Int32) : setM (sI σ k v) r f = sI (setM σ r f) k v := rfl
/-- the four characters of an int -/
def cB (x : Int32) (s : Nat) : Nat := ((x >>> nI (24 - 8 * s)) &&& nI 255).toNatClampNeg
theorem cB_e (x : Int32) (s : Nat) : (x >>> nI (24 - 8 * s)) &&& nI 255 = nI (cB x s) ∧ cB x s < 256 ∧ (x >>> nI (24 - 8 * s)).toInt8.toInt32 = by8 (cB x s) := by
  obtain ⟨c, h1, h2, h3⟩ := y_low (x >>> nI (24 - 8 * s))
  have e : cB x s = c := by unfold cB; rw [h2, q_cl (by omega)]
  rw [e]; exact ⟨h2, h1, h3⟩
theorem m8_1 : nI 24 + -nI 8 = nI 16 := by decide
theorem m8_2 : nI 16 + -nI 8 = nI 8 := by decide
theorem m8_3 : nI 8 + -nI 8 = nI 0 := by decide
theorem m8_4 : (nI 0 + -nI 8 < nI 0) = True := eq_true (by decide)
theorem c_app {q : SS → Prop} {σ : SS} {x s' : Int32} {n s k c : Nat} (n' : Nat) (hn' : n' = n + 1) (hn : n < 6000) (hv : σ.1 34 = nI n) (hs : s < 32) (e : nI s + -nI 8 = s') (hc : (x >>> nI s) &&& nI 255 = nI c) (hc2 : c < 256) (h : f_I_appendFour_3 q k (sI (sA σ 12 n (nI c)) 34 (nI n')) x s') : f_I_appendFour_3 q (k + 1) σ x (nI s) := by
  subst hn'
  rw [f_I_appendFour_3]
  simp (disch := omega) only [f_I_appendFour_44, nm, q_lit, q_add, q_sub, q_subN, q_n1, q_mul, q_div, q_nm, q_and, q_or, q_xor, q_shr, q_shl, q_cl, q_a1, q_a3, q_a7, q_a31, q_a63, q_a255, q_a15, q_a16, q_a17, q_a2, q_a4, q_a8, q_a1024, q_a65536, Nat.reduceMod, Nat.reducePow, Nat.reduceDiv, Nat.reduceMul, Nat.reduceAdd, Nat.reduceSub, Nat.reduceEqDiff, q_ltT, q_ltF, q_leT, q_leF, q_eqT, q_eqF, q_inT, q_bz0, q_bz1, b_T, b_F, true_and, and_true, if_true, if_false, sI_1, sI_2, sA_1, sA_2, sA_3, u_at, hv, hc, nar_c (show c < 65536 by omega), e, Nat.mod_eq_of_lt hs]
  exact h
theorem sx12 (σ : SS) (f : Nat → Int32) (n : Nat) (v a b : Int32) : sI (sA (sI (setM σ 12 f) 34 a) 12 n v) 34 b = sI (setM σ 12 (upd f n v)) 34 b := by
  rw [sA_M]
  show sI (setM (sI (setM σ 12 f) 34 a) 12 (upd f n v)) 34 b = _
  rw [setM_sI, setM_M, sI_sI]
theorem c_app2 {q : SS → Prop} {σ : SS} {f : Nat → Int32} {x s' : Int32} {n s k c : Nat} (n' : Nat) (hn' : n' = n + 1) (hn : n < 6000) (hs : s < 32) (e : nI s + -nI 8 = s') (hc : (x >>> nI s) &&& nI 255 = nI c) (hc2 : c < 256) (h : f_I_appendFour_3 q k (sI (setM σ 12 (upd f n (nI c))) 34 (nI n')) x s') : f_I_appendFour_3 q (k + 1) (sI (setM σ 12 f) 34 (nI n)) x (nI s) := by
  refine c_app n' hn' hn rfl hs e hc hc2 ?_
  rw [sx12]
  exact h
theorem c_four {σ : SS} {n : Nat} (x : Int32) (hn : n + 4 ≤ 6000) (hv : σ.1 34 = nI n) : ∃ f : Nat → Int32, ToV (fun q => f_I_appendFour q σ x) (sI (setM σ 12 f) 34 (nI (n + 4))) ∧ (∀ j, j < n → f j = σ.2.1 12 j) ∧ ∀ s, s < 4 → f (n + s) = nI (cB x s) := by
  obtain ⟨a0, b0, _⟩ := cB_e x 0
  obtain ⟨a1, b1, _⟩ := cB_e x 1
  obtain ⟨a2, b2, _⟩ := cB_e x 2
  obtain ⟨a3, b3, _⟩ := cB_e x 3
  simp only [Nat.reduceMul, Nat.reduceSub] at a0 a1 a2 a3
  have ini : σ = sI (setM σ 12 (σ.2.1 12)) 34 (nI n) := by rw [setM_self, ← hv, sI_self]
  have run : ∀ q : SS → Prop, q (sI (setM σ 12 (upd (upd (upd (upd (σ.2.1 12) n (nI (cB x 0))) (n + 1) (nI (cB x 1))) (n + 2) (nI (cB x 2))) (n + 3) (nI (cB x 3)))) 34 (nI (n + 4))) → f_I_appendFour_3 q 5 (sI (setM σ 12 (σ.2.1 12)) 34 (nI n)) x (nI 24) := by
    intro q z
    refine c_app2 (s := 24) (n := n) (n + 1) rfl (by omega) (by omega) m8_1 a0 b0 ?_
    refine c_app2 (s := 16) (n := n + 1) (n + 2) rfl (by omega) (by omega) m8_2 a1 b1 ?_
    refine c_app2 (s := 8) (n := n + 2) (n + 3) rfl (by omega) (by omega) m8_3 a2 b2 ?_
    refine c_app2 (s := 0) (n := n + 3) (n + 4) rfl (by omega) (by omega) rfl a3 b3 ?_
    rw [f_I_appendFour_3]
    exact b_t (show nI 0 + -nI 8 < 0 by decide) z
  refine ⟨upd (upd (upd (upd (σ.2.1 12) n (nI (cB x 0))) (n + 1) (nI (cB x 1))) (n + 2) (nI (cB x 2))) (n + 3) (nI (cB x 3)), fun q z => ⟨5, ?_⟩, fun j hj => ?_, fun s hs => ?_⟩
  · have := run q z
    rw [← ini] at this
    exact this
  · simp only [u_at]
    rw [if_neg (by omega), if_neg (by omega), if_neg (by omega), if_neg (by omega)]
  · simp only [u_at]
    have hq : s = 0 ∨ s = 1 ∨ s = 2 ∨ s = 3 := by omega
    rcases hq with rfl | rfl | rfl | rfl
    · rw [if_neg (by omega), if_neg (by omega), if_neg (by omega), if_pos (by omega)]
    · rw [if_neg (by omega), if_neg (by omega), if_pos (by omega)]
    · rw [if_neg (by omega), if_pos (by omega)]
    · rw [if_pos (by omega)]
def sel5 (x1 x2 x3 x4 x5 : Int32) (m : Nat) : Int32 := if m < 4 then x1 else if m < 8 then x2 else if m < 12 then x3 else if m < 16 then x4 else x5
theorem r_feedL {x1 x2 x3 x4 x5 : Int32} {n : Nat} {post : Int32 → SS → Prop} (hn : n + 20 ≤ 6000) (k : Nat) : ∀ (τ : SS) (i : Nat), i + k = 20 → τ.1 12 = nI n → post (nI (n + 20)) (sI (setM τ 9 (fun j => if n + i ≤ j ∧ j < n + 20 then by8 (cB (sel5 x1 x2 x3 x4 x5 (j - n)) ((j - n) % 4)) else τ.2.1 9 j)) 12 (nI (n + 20))) → f_R_feed_31 post (k + 1) τ x1 x2 x3 x4 x5 (nI i) := by
  induction k with
  | zero =>
    intro τ i hi hv h
    have e : (fun j => if n + i ≤ j ∧ j < n + 20 then by8 (cB (sel5 x1 x2 x3 x4 x5 (j - n)) ((j - n) % 4)) else τ.2.1 9 j) = τ.2.1 9 := by
      funext j
      rw [if_neg (by omega)]
    rw [e, setM_self] at h
    simp (disch := omega) only [f_R_feed_31, nm, q_lit, q_add, q_sub, q_subN, q_n1, q_mul, q_div, q_nm, q_and, q_or, q_xor, q_shr, q_shl, q_cl, q_a1, q_a3, q_a7, q_a31, q_a63, q_a255, q_a15, q_a16, q_a17, q_a2, q_a4, q_a8, q_a1024, q_a65536, Nat.reduceMod, Nat.reducePow, Nat.reduceDiv, Nat.reduceMul, Nat.reduceAdd, Nat.reduceSub, Nat.reduceEqDiff, q_ltT, q_ltF, q_leT, q_leF, q_eqT, q_eqF, q_inT, q_bz0, q_bz1, b_T, b_F, true_and, and_true, if_true, if_false, sI_1, sI_2, sA_1, sA_2, sA_3, u_at, hv]
    exact h
  | succ k ih =>
    intro τ i hi hv h
    have key : f_R_feed_84 post (f_R_feed_31 post (k + 1)) τ x1 x2 x3 x4 x5 (nI i) (sel5 x1 x2 x3 x4 x5 i) := by
      obtain ⟨_, _, c3⟩ := cB_e (sel5 x1 x2 x3 x4 x5 i) (i % 4)
      simp (disch := omega) only [f_R_feed_84, nm, q_lit, q_add, q_sub, q_subN, q_n1, q_mul, q_div, q_nm, q_and, q_or, q_xor, q_shr, q_shl, q_cl, q_a1, q_a3, q_a7, q_a31, q_a63, q_a255, q_a15, q_a16, q_a17, q_a2, q_a4, q_a8, q_a1024, q_a65536, Nat.reduceMod, Nat.reducePow, Nat.reduceDiv, Nat.reduceMul, Nat.reduceAdd, Nat.reduceSub, Nat.reduceEqDiff, q_ltT, q_ltF, q_leT, q_leF, q_eqT, q_eqF, q_inT, q_bz0, q_bz1, b_T, b_F, true_and, and_true, if_true, if_false, hv, Nat.mod_eq_of_lt (show 24 - 8 * (i % 4) < 32 by omega), c3]
      have c4 : vp_nar .byte (by8 (cB (sel5 x1 x2 x3 x4 x5 i) (i % 4))) = by8 (cB (sel5 x1 x2 x3 x4 x5 i) (i % 4)) := by
        rw [← c3]; exact nar_b _
      rw [c4]
      refine ih _ (i + 1) (by omega) hv ?_
      have e : setM (sA τ 9 (n + i) (by8 (cB (sel5 x1 x2 x3 x4 x5 i) (i % 4)))) 9 (fun j => if n + (i + 1) ≤ j ∧ j < n + 20 then by8 (cB (sel5 x1 x2 x3 x4 x5 (j - n)) ((j - n) % 4)) else (sA τ 9 (n + i) (by8 (cB (sel5 x1 x2 x3 x4 x5 i) (i % 4)))).2.1 9 j) = setM τ 9 (fun j => if n + i ≤ j ∧ j < n + 20 then by8 (cB (sel5 x1 x2 x3 x4 x5 (j - n)) ((j - n) % 4)) else τ.2.1 9 j) := by
        rw [sA_M, setM_M, setM_at]
        congr 1
        funext j
        simp only [u_at]
        by_cases h1 : n + (i + 1) ≤ j ∧ j < n + 20
        · rw [if_pos h1, if_pos (by omega)]
        · rw [if_neg h1]
          by_cases h2 : j = n + i
          · subst h2
            rw [if_pos rfl, if_pos (by omega), show n + i - n = i by omega]
          · rw [if_neg h2, if_neg (by omega)]
      rw [e]
      exact h
    rw [f_R_feed_31]
    unfold sel5 at key
    by_cases g1 : i < 4
    · rw [if_pos g1] at key
      simp (disch := omega) only [nm, q_lit, q_add, q_sub, q_subN, q_n1, q_mul, q_div, q_nm, q_and, q_or, q_xor, q_shr, q_shl, q_cl, q_a1, q_a3, q_a7, q_a31, q_a63, q_a255, q_a15, q_a16, q_a17, q_a2, q_a4, q_a8, q_a1024, q_a65536, Nat.reduceMod, Nat.reducePow, Nat.reduceDiv, Nat.reduceMul, Nat.reduceAdd, Nat.reduceSub, Nat.reduceEqDiff, q_ltT, q_ltF, q_leT, q_leF, q_eqT, q_eqF, q_inT, q_bz0, q_bz1, b_T, b_F, true_and, and_true, if_true, if_false]; exact key
    by_cases g2 : i < 8
    · rw [if_neg g1, if_pos g2] at key
      simp (disch := omega) only [nm, q_lit, q_add, q_sub, q_subN, q_n1, q_mul, q_div, q_nm, q_and, q_or, q_xor, q_shr, q_shl, q_cl, q_a1, q_a3, q_a7, q_a31, q_a63, q_a255, q_a15, q_a16, q_a17, q_a2, q_a4, q_a8, q_a1024, q_a65536, Nat.reduceMod, Nat.reducePow, Nat.reduceDiv, Nat.reduceMul, Nat.reduceAdd, Nat.reduceSub, Nat.reduceEqDiff, q_ltT, q_ltF, q_leT, q_leF, q_eqT, q_eqF, q_inT, q_bz0, q_bz1, b_T, b_F, true_and, and_true, if_true, if_false]; exact key
    by_cases g3 : i < 12
    · rw [if_neg g1, if_neg g2, if_pos g3] at key
      simp (disch := omega) only [nm, q_lit, q_add, q_sub, q_subN, q_n1, q_mul, q_div, q_nm, q_and, q_or, q_xor, q_shr, q_shl, q_cl, q_a1, q_a3, q_a7, q_a31, q_a63, q_a255, q_a15, q_a16, q_a17, q_a2, q_a4, q_a8, q_a1024, q_a65536, Nat.reduceMod, Nat.reducePow, Nat.reduceDiv, Nat.reduceMul, Nat.reduceAdd, Nat.reduceSub, Nat.reduceEqDiff, q_ltT, q_ltF, q_leT, q_leF, q_eqT, q_eqF, q_inT, q_bz0, q_bz1, b_T, b_F, true_and, and_true, if_true, if_false]; exact key
    by_cases g4 : i < 16
    · rw [if_neg g1, if_neg g2, if_neg g3, if_pos g4] at key
      simp (disch := omega) only [nm, q_lit, q_add, q_sub, q_subN, q_n1, q_mul, q_div, q_nm, q_and, q_or, q_xor, q_shr, q_shl, q_cl, q_a1, q_a3, q_a7, q_a31, q_a63, q_a255, q_a15, q_a16, q_a17, q_a2, q_a4, q_a8, q_a1024, q_a65536, Nat.reduceMod, Nat.reducePow, Nat.reduceDiv, Nat.reduceMul, Nat.reduceAdd, Nat.reduceSub, Nat.reduceEqDiff, q_ltT, q_ltF, q_leT, q_leF, q_eqT, q_eqF, q_inT, q_bz0, q_bz1, b_T, b_F, true_and, and_true, if_true, if_false]; exact key
    · rw [if_neg g1, if_neg g2, if_neg g3, if_neg g4] at key
      simp (disch := omega) only [nm, q_lit, q_add, q_sub, q_subN, q_n1, q_mul, q_div, q_nm, q_and, q_or, q_xor, q_shr, q_shl, q_cl, q_a1, q_a3, q_a7, q_a31, q_a63, q_a255, q_a15, q_a16, q_a17, q_a2, q_a4, q_a8, q_a1024, q_a65536, Nat.reduceMod, Nat.reducePow, Nat.reduceDiv, Nat.reduceMul, Nat.reduceAdd, Nat.reduceSub, Nat.reduceEqDiff, q_ltT, q_ltF, q_leT, q_leF, q_eqT, q_eqF, q_inT, q_bz0, q_bz1, b_T, b_F, true_and, and_true, if_true, if_false]; exact key
theorem pt_feed (j : Nat) : PT_feed (RelJ j) (RelJ (j + 1)) := by
  intro σ τ g x1 x2 x3 x4 x5 hR
  have hR := RelJ_mono j σ τ hR
  obtain ⟨hm, hg, hp, hl, hi, hd, ht, hpp, ⟨n, hn, v1, v2, v3⟩, hf, hk, hT⟩ := id hR
  by_cases h1 : 6000 < n + 20
  · simp (disch := omega) only [f_N_feed, f_N_feed_28_611, f_R_feed, f_R_feed_19, lawT, lawE, f_R_thrown, f_R_fails, f_R_fails_10, f_R_within, f_N_isWithin, f_N_require, f_N_requireRoom, uL, false_implies, true_implies, implies_true, or_false, false_or, and_self, or_true, true_or, if_true, if_false, nm, q_lit, q_add, q_sub, q_subN, q_n1, q_mul, q_div, q_nm, q_and, q_or, q_xor, q_shr, q_shl, q_cl, q_a1, q_a3, q_a7, q_a31, q_a63, q_a255, q_a15, q_a16, q_a17, q_a2, q_a4, q_a8, q_a1024, q_a65536, Nat.reduceMod, Nat.reducePow, Nat.reduceDiv, Nat.reduceMul, Nat.reduceAdd, Nat.reduceSub, Nat.reduceEqDiff, q_ltT, q_ltF, q_leT, q_leF, q_eqT, q_eqF, q_inT, q_bz0, q_bz1, b_T, b_F, true_and, and_true, if_true, if_false, sI_1, sI_2, sA_1, sA_2, sA_3, u_at, v1, v2]; exact hR
  obtain ⟨f1, a1, a2, a3⟩ := c_four (σ := σ) x1 (by omega) v1
  obtain ⟨f2, b1, b2, b3⟩ := c_four (σ := sI (setM σ 12 f1) 34 (nI (n + 4))) (n := n + 4) x2 (by omega) rfl
  obtain ⟨f3, c1, c2, c3⟩ := c_four (σ := sI (setM (sI (setM σ 12 f1) 34 (nI (n + 4))) 12 f2) 34 (nI (n + 4 + 4))) (n := n + 4 + 4) x3 (by omega) rfl
  obtain ⟨f4, d1, d2, d3⟩ := c_four (σ := sI (setM (sI (setM (sI (setM σ 12 f1) 34 (nI (n + 4))) 12 f2) 34 (nI (n + 4 + 4))) 12 f3) 34 (nI (n + 4 + 4 + 4))) (n := n + 4 + 4 + 4) x4 (by omega) rfl
  obtain ⟨f5, e1, e2, e3⟩ := c_four (σ := sI (setM (sI (setM (sI (setM (sI (setM σ 12 f1) 34 (nI (n + 4))) 12 f2) 34 (nI (n + 4 + 4))) 12 f3) 34 (nI (n + 4 + 4 + 4))) 12 f4) 34 (nI (n + 4 + 4 + 4 + 4))) (n := n + 4 + 4 + 4 + 4) x5 (by omega) rfl
  simp (disch := omega) only [f_N_feed, f_N_feed_28_611, lawT, lawE, f_R_thrown, f_R_fails, f_R_fails_10, f_R_within, f_N_isWithin, f_N_require, f_N_requireRoom, uL, false_implies, true_implies, implies_true, or_false, false_or, and_self, or_true, true_or, if_true, if_false, nm, q_lit, q_add, q_sub, q_subN, q_n1, q_mul, q_div, q_nm, q_and, q_or, q_xor, q_shr, q_shl, q_cl, q_a1, q_a3, q_a7, q_a31, q_a63, q_a255, q_a15, q_a16, q_a17, q_a2, q_a4, q_a8, q_a1024, q_a65536, Nat.reduceMod, Nat.reducePow, Nat.reduceDiv, Nat.reduceMul, Nat.reduceAdd, Nat.reduceSub, Nat.reduceEqDiff, q_ltT, q_ltF, q_leT, q_leF, q_eqT, q_eqF, q_inT, q_bz0, q_bz1, b_T, b_F, true_and, and_true, if_true, if_false, v1]
  refine a1 _ (b1 _ (c1 _ (d1 _ (e1 _ ?_))))
  simp (disch := omega) only [f_R_feed, f_R_feed_19, lawT, lawE, f_R_thrown, f_R_fails, f_R_fails_10, f_R_within, f_N_isWithin, f_N_require, f_N_requireRoom, uL, false_implies, true_implies, implies_true, or_false, false_or, and_self, or_true, true_or, if_true, if_false, nm, q_lit, q_add, q_sub, q_subN, q_n1, q_mul, q_div, q_nm, q_and, q_or, q_xor, q_shr, q_shl, q_cl, q_a1, q_a3, q_a7, q_a31, q_a63, q_a255, q_a15, q_a16, q_a17, q_a2, q_a4, q_a8, q_a1024, q_a65536, Nat.reduceMod, Nat.reducePow, Nat.reduceDiv, Nat.reduceMul, Nat.reduceAdd, Nat.reduceSub, Nat.reduceEqDiff, q_ltT, q_ltF, q_leT, q_leF, q_eqT, q_eqF, q_inT, q_bz0, q_bz1, b_T, b_F, true_and, and_true, if_true, if_false, sI_1, sI_2, sA_1, sA_2, sA_3, u_at, v2]
  refine ⟨21, r_feedL (by omega) 20 _ 0 (by omega) v2 ?_⟩
  refine ⟨rfl, ?_, hm, hg, hp, hl, hi, hd, ht, hpp, ⟨n + 20, by omega, rfl, rfl, fun i hi => ?_⟩, hf, hk, hT⟩
  · rfl
  · show ∃ c, c < 256 ∧ f5 i = nI c ∧ (if n + 0 ≤ i ∧ i < n + 20 then by8 (cB (sel5 x1 x2 x3 x4 x5 (i - n)) ((i - n) % 4)) else τ.2.1 9 i) = by8 c
    by_cases q0 : i < n
    · rw [if_neg (by omega)]
      have w5 := e2 i (by omega)
      have w4 := d2 i (by omega)
      have w3 := c2 i (by omega)
      have w2 := b2 i (by omega)
      have w1 := a2 i (by omega)
      obtain ⟨c, z1, z2, z3⟩ := v3 i q0
      exact ⟨c, z1, w5.trans (w4.trans (w3.trans (w2.trans (w1.trans z2)))), z3⟩
    rw [if_pos (by omega)]
    obtain ⟨m, rfl⟩ : ∃ m, i = n + m := ⟨i - n, by omega⟩
    rw [show n + m - n = m by omega]
    unfold sel5
    by_cases g1 : m < 4
    · rw [if_pos g1]
      refine ⟨_, (cB_e x1 (m % 4)).2.1, ?_, rfl⟩
      rw [Nat.mod_eq_of_lt g1]
      have w5 := e2 (n + m) (by omega)
      have w4 := d2 (n + m) (by omega)
      have w3 := c2 (n + m) (by omega)
      have w2 := b2 (n + m) (by omega)
      exact w5.trans (w4.trans (w3.trans (w2.trans (a3 m g1))))
    rw [if_neg g1]
    by_cases g2 : m < 8
    · rw [if_pos g2]
      refine ⟨_, (cB_e x2 (m % 4)).2.1, ?_, rfl⟩
      have w5 := e2 (n + m) (by omega)
      have w4 := d2 (n + m) (by omega)
      have w3 := c2 (n + m) (by omega)
      have w := b3 (m - 4) (by omega)
      rw [show n + 4 + (m - 4) = n + m by omega] at w
      rw [show m % 4 = m - 4 by omega]
      exact w5.trans (w4.trans (w3.trans w))
    rw [if_neg g2]
    by_cases g3 : m < 12
    · rw [if_pos g3]
      refine ⟨_, (cB_e x3 (m % 4)).2.1, ?_, rfl⟩
      have w5 := e2 (n + m) (by omega)
      have w4 := d2 (n + m) (by omega)
      have w := c3 (m - 8) (by omega)
      rw [show n + 4 + 4 + (m - 8) = n + m by omega] at w
      rw [show m % 4 = m - 8 by omega]
      exact w5.trans (w4.trans w)
    rw [if_neg g3]
    by_cases g4 : m < 16
    · rw [if_pos g4]
      refine ⟨_, (cB_e x4 (m % 4)).2.1, ?_, rfl⟩
      have w5 := e2 (n + m) (by omega)
      have w := d3 (m - 12) (by omega)
      rw [show n + 4 + 4 + 4 + (m - 12) = n + m by omega] at w
      rw [show m % 4 = m - 12 by omega]
      exact w5.trans w
    · rw [if_neg g4]
      refine ⟨_, (cB_e x5 (m % 4)).2.1, ?_, rfl⟩
      have w := e3 (m - 16) (by omega)
      rw [show n + 4 + 4 + 4 + 4 + (m - 16) = n + m by omega] at w
      rw [show m % 4 = m - 16 by omega]
      exact w
