/-! the pure side: the reference's next item -/
def AtR (T : Nat → Nat) (e : Nat) (ts : List Tk) (v : SS) : Prop := v.1 13 = nI 0 ∧ match ts with
  | [] => v.1 22 = nI 0
  | t :: r => t.1 ≠ 1 ∧ RTk v t ∧ ∃ q, v.1 20 = nI q ∧ LexL T e q r
theorem seg_snoc (T : Nat → Nat) (q i : Nat) : seg T q (i + 1) = seg T q i ++ [T (q + i)] := by
  unfold seg
  rw [List.range'_concat, List.map_append]
  simp
theorem seg_cons (T : Nat → Nat) (q k : Nat) : seg T q (k + 1) = T q :: seg T (q + 1) k := by
  unfold seg
  rw [List.range'_succ, List.map_cons]
theorem seg_len (T : Nat → Nat) (q n : Nat) : (seg T q n).length = n := by
  unfold seg; simp
theorem seg_0 (T : Nat → Nat) (q : Nat) {n : Nat} (h : 0 < n) : (seg T q n).getD 0 0 = T q := by
  obtain ⟨m, rfl⟩ : ∃ m, n = m + 1 := ⟨n - 1, by omega⟩
  rw [seg_cons]; rfl
theorem nameR_snoc (cs : List Nat) : ∀ (a c : Nat), nameR a (cs ++ [c]) = nameR a cs * 256 + c := by
  induction cs with
  | nil => intro a c; rfl
  | cons x r ih => intro a c; exact ih _ _
theorem nv_cons (a c : Nat) (r : List Nat) : nv a (c :: r) = if 48 ≤ c ∧ c ≤ 55 then nv (min (a * 8 + (c - 48)) 65536) r else 65536 := rfl
theorem r_word1 {T : Nat → Nat} {len e q n : Nat} {τ0 : SS} {post : Int32 → SS → Prop} (he : e ≤ len) (hn : q + n ≤ e) (hL : ∀ i, i < n → isL (T (q + i))) (hE : q + n = e ∨ ¬ isL (T (q + n)))
    (hok : n < 7 → ∀ v, FrN τ0 v → v.1 13 = nI 0 → v.1 20 = nI (q + n) → v.1 22 = nI 1 → v.2.2.1 0 = jI (nameR 0 (seg T q n)) → post (nI 1) v) (hbad : 7 ≤ n → ∀ v, RF τ0 1 v → post (nI 0) v) (k : Nat) :
    ∀ (i : Nat) (τ : SS), i + k = n → FrN τ0 τ → RTx τ T len → τ.1 13 = nI 0 → τ.1 21 = nI e → τ.1 20 = nI (q + i) → τ.1 22 = nI 1 → (i ≤ 6 → τ.2.2.1 0 = jI (nameR 0 (seg T q i))) → f_R_next_203 post (k + 1) τ (nI i) (nI 1) := by
  induction k with
  | zero =>
    intro i τ hi hf ht h13 h21 h20 h22 hnm
    obtain ⟨t1, t2, t3⟩ := id ht
    have ei : i = n := by omega
    subst ei
    have fin : f_R_next_356 post τ (nI i) (nI 1) := by
      by_cases c7 : 7 ≤ i
      · simp (disch := omega) only [f_R_next_356, f_R_next_396, f_R_stop, nm, q_lit, q_add, q_sub, q_subN, q_n1, q_mul, q_div, q_nm, q_and, q_or, q_xor, q_shr, q_shl, q_cl, q_a1, q_a3, q_a7, q_a31, q_a63, q_a255, q_a15, q_a16, q_a17, q_a2, q_a4, q_a8, q_a1024, q_a65536, Nat.reduceMod, Nat.reducePow, Nat.reduceDiv, Nat.reduceMul, Nat.reduceAdd, Nat.reduceSub, Nat.reduceEqDiff, q_ltT, q_ltF, q_leT, q_leF, q_eqT, q_eqF, q_inT, q_bz0, q_bz1, b_T, b_F, true_and, and_true, if_true, if_false, h22, h13]
        exact hbad c7 _ ⟨hf.flt (by omega) (by omega) _, rfl, hf.1 15 (by omega) (by omega) (by omega) (by omega) (by omega)⟩
      · simp (disch := omega) only [f_R_next_356, f_R_next_396, f_R_stop, nm, q_lit, q_add, q_sub, q_subN, q_n1, q_mul, q_div, q_nm, q_and, q_or, q_xor, q_shr, q_shl, q_cl, q_a1, q_a3, q_a7, q_a31, q_a63, q_a255, q_a15, q_a16, q_a17, q_a2, q_a4, q_a8, q_a1024, q_a65536, Nat.reduceMod, Nat.reducePow, Nat.reduceDiv, Nat.reduceMul, Nat.reduceAdd, Nat.reduceSub, Nat.reduceEqDiff, q_ltT, q_ltF, q_leT, q_leF, q_eqT, q_eqF, q_inT, q_bz0, q_bz1, b_T, b_F, true_and, and_true, if_true, if_false, h22]
        exact hok (by omega) τ hf h13 h20 h22 (hnm (by omega))
    rw [f_R_next_203, h21, h20]
    by_cases ce : q + i = e
    · exact b_t (by rw [q_le (by omega) (by omega)]; omega) fin
    · have nl : ¬ isL (T (q + i)) := by rcases hE with z | z; exact absurd z ce; exact z
      obtain ⟨c1, c2⟩ := t3 (q + i) (by omega)
      refine b_f (by rw [q_le (by omega) (by omega)]; omega) ⟨by rw [q_in (by omega)]; omega, ?_⟩
      rw [q_cl (by omega), c2]
      refine r_isL c1 (fun z => absurd (by unfold isL; unfold ltr at z; omega) nl) (fun _ => ?_)
      refine b_t rfl ⟨by rw [h20, q_in (by omega)]; omega, ?_⟩
      rw [h20, q_cl (by omega), c2]
      exact r_isD c1 (fun z => absurd (by unfold isL; omega) nl) (fun _ => b_t rfl fin)
  | succ k ih =>
    intro i τ hi hf ht h13 h21 h20 h22 hnm
    obtain ⟨t1, t2, t3⟩ := id ht
    obtain ⟨c1, c2⟩ := t3 (q + i) (by omega)
    have il := hL i (by omega)
    have ib := isL_b il
    have step : f_R_next_244 post (f_R_next_203 post (k + 1)) τ (nI i) (nI 1) := by
      simp (disch := omega) only [f_R_next_244, nm, q_lit, q_add, q_sub, q_subN, q_n1, q_mul, q_div, q_nm, q_and, q_or, q_xor, q_shr, q_shl, q_cl, q_a1, q_a3, q_a7, q_a31, q_a63, q_a255, q_a15, q_a16, q_a17, q_a2, q_a4, q_a8, q_a1024, q_a65536, Nat.reduceMod, Nat.reducePow, Nat.reduceDiv, Nat.reduceMul, Nat.reduceAdd, Nat.reduceSub, Nat.reduceEqDiff, q_ltT, q_ltF, q_leT, q_leF, q_eqT, q_eqF, q_inT, q_bz0, q_bz1, b_T, b_F, true_and, and_true, if_true, if_false, h20, c2]
      by_cases c7 : 7 ≤ i + 1
      · simp (disch := omega) only [f_R_next_277, f_R_next_343, nm, q_lit, q_add, q_sub, q_subN, q_n1, q_mul, q_div, q_nm, q_and, q_or, q_xor, q_shr, q_shl, q_cl, q_a1, q_a3, q_a7, q_a31, q_a63, q_a255, q_a15, q_a16, q_a17, q_a2, q_a4, q_a8, q_a1024, q_a65536, Nat.reduceMod, Nat.reducePow, Nat.reduceDiv, Nat.reduceMul, Nat.reduceAdd, Nat.reduceSub, Nat.reduceEqDiff, q_ltT, q_ltF, q_leT, q_leF, q_eqT, q_eqF, q_inT, q_bz0, q_bz1, b_T, b_F, true_and, and_true, if_true, if_false, h22, h20]
        refine ih (i + 1) _ (by omega) (hf.sI (by omega) _) (ht.fr ((FrN.refl _).sI (by omega) _)) h13 h21 ?_ h22 (fun z => by omega)
        show nI (q + i + 1) = nI (q + (i + 1)); rfl
      · have hnm' := hnm (by omega)
        have en : (τ.2.2.1 0 <<< ((nI 8).toInt64 &&& 63)) ||| ((by8 (T (q + i))).toInt64) = jI (nameR 0 (seg T q (i + 1))) := by
          rw [hnm', by_lo _ (by omega), n_j (by omega), n_j (by omega), j_lit, j_and]
          rw [show (8 &&& 63 : Nat) = 8 from rfl, j_shl (by omega), j_or, seg_snoc, nameR_snoc]
          congr 1
          exact or_add (b := T (q + i)) 8 (nameR 0 (seg T q i)) (by omega)
        simp (disch := omega) only [f_R_next_277, f_R_next_343, nm, q_lit, q_add, q_sub, q_subN, q_n1, q_mul, q_div, q_nm, q_and, q_or, q_xor, q_shr, q_shl, q_cl, q_a1, q_a3, q_a7, q_a31, q_a63, q_a255, q_a15, q_a16, q_a17, q_a2, q_a4, q_a8, q_a1024, q_a65536, Nat.reduceMod, Nat.reducePow, Nat.reduceDiv, Nat.reduceMul, Nat.reduceAdd, Nat.reduceSub, Nat.reduceEqDiff, q_ltT, q_ltF, q_leT, q_leF, q_eqT, q_eqF, q_inT, q_bz0, q_bz1, b_T, b_F, true_and, and_true, if_true, if_false, sL_1, h22, h20]
        refine ih (i + 1) _ (by omega) ((hf.sL _ _).sI (by omega) _) (ht.fr (((FrN.refl _).sL _ _).sI (by omega) _)) h13 h21 ?_ h22 (fun _ => ?_)
        · show nI (q + i + 1) = nI (q + (i + 1)); rfl
        · show vp_updL τ.2.2.1 0 _ 0 = _
          rw [uL]; exact en
    rw [f_R_next_203, h21, h20]
    refine b_f (by rw [q_le (by omega) (by omega)]; omega) ⟨by rw [q_in (by omega)]; omega, ?_⟩
    rw [q_cl (by omega), c2]
    refine r_isL c1 (fun _ => b_f (by decide) step) (fun nl => ?_)
    refine b_t rfl ⟨by rw [h20, q_in (by omega)]; omega, ?_⟩
    rw [h20, q_cl (by omega), c2]
    exact r_isD c1 (fun _ => b_f (by decide) step) (fun z => absurd il (by unfold isL; unfold ltr at nl; omega))
theorem r_word2 {T : Nat → Nat} {len e q n : Nat} {τ0 : SS} {post : Int32 → SS → Prop} (he : e ≤ len) (hn : q + n ≤ e) (hL : ∀ i, i < n → isL (T (q + i))) (hE : q + n = e ∨ ¬ isL (T (q + n)))
    (hok : nv 0 (seg T q n) < 65536 → ∀ v, FrN τ0 v → v.1 13 = nI 0 → v.1 20 = nI (q + n) → v.1 22 = nI 2 → v.1 23 = nI (nv 0 (seg T q n)) → post (nI 1) v) (hbad : ¬ nv 0 (seg T q n) < 65536 → ∀ v, RF τ0 1 v → post (nI 0) v) (k : Nat) :
    ∀ (i : Nat) (τ : SS) (fn a : Nat), i + k = n → fn ≤ 1 → a < 524288 → FrN τ0 τ → RTx τ T len → τ.1 13 = nI 0 → τ.1 21 = nI e → τ.1 20 = nI (q + i) → τ.1 22 = nI 2 → τ.1 23 = nI a → nv 0 (seg T q n) = (if fn = 1 then nv (min a 65536) (seg T (q + i) k) else 65536) → f_R_next_203 post (k + 1) τ (nI i) (nI fn) := by
  induction k with
  | zero =>
    intro i τ fn a hi hfn ha hf ht h13 h21 h20 h22 h23 hnv
    obtain ⟨t1, t2, t3⟩ := id ht
    have ei : i = n := by omega
    subst ei
    have fin : f_R_next_356 post τ (nI i) (nI fn) := by
      have bad : ¬ nv 0 (seg T q i) < 65536 → post (nI 0) (sI (sI τ 13 (nI 1)) 14 (τ.1 15)) := fun z => hbad z _ ⟨hf.flt (by omega) (by omega) _, rfl, hf.1 15 (by omega) (by omega) (by omega) (by omega) (by omega)⟩
      by_cases c0 : fn = 0
      · rw [if_neg (by omega)] at hnv
        simp (disch := omega) only [f_R_next_356, f_R_next_396, f_R_stop, nm, q_lit, q_add, q_sub, q_subN, q_n1, q_mul, q_div, q_nm, q_and, q_or, q_xor, q_shr, q_shl, q_cl, q_a1, q_a3, q_a7, q_a31, q_a63, q_a255, q_a15, q_a16, q_a17, q_a2, q_a4, q_a8, q_a1024, q_a65536, Nat.reduceMod, Nat.reducePow, Nat.reduceDiv, Nat.reduceMul, Nat.reduceAdd, Nat.reduceSub, Nat.reduceEqDiff, q_ltT, q_ltF, q_leT, q_leF, q_eqT, q_eqF, q_inT, q_bz0, q_bz1, b_T, b_F, true_and, and_true, if_true, if_false, h22, h13]
        exact bad (by omega)
      · rw [if_pos (by omega)] at hnv
        have e1 : nv 0 (seg T q i) = min a 65536 := hnv
        by_cases c1 : 65536 ≤ a
        · simp (disch := omega) only [f_R_next_356, f_R_next_396, f_R_stop, nm, q_lit, q_add, q_sub, q_subN, q_n1, q_mul, q_div, q_nm, q_and, q_or, q_xor, q_shr, q_shl, q_cl, q_a1, q_a3, q_a7, q_a31, q_a63, q_a255, q_a15, q_a16, q_a17, q_a2, q_a4, q_a8, q_a1024, q_a65536, Nat.reduceMod, Nat.reducePow, Nat.reduceDiv, Nat.reduceMul, Nat.reduceAdd, Nat.reduceSub, Nat.reduceEqDiff, q_ltT, q_ltF, q_leT, q_leF, q_eqT, q_eqF, q_inT, q_bz0, q_bz1, b_T, b_F, true_and, and_true, if_true, if_false, h22, h13, h23]
          exact bad (by omega)
        · simp (disch := omega) only [f_R_next_356, f_R_next_396, f_R_stop, nm, q_lit, q_add, q_sub, q_subN, q_n1, q_mul, q_div, q_nm, q_and, q_or, q_xor, q_shr, q_shl, q_cl, q_a1, q_a3, q_a7, q_a31, q_a63, q_a255, q_a15, q_a16, q_a17, q_a2, q_a4, q_a8, q_a1024, q_a65536, Nat.reduceMod, Nat.reducePow, Nat.reduceDiv, Nat.reduceMul, Nat.reduceAdd, Nat.reduceSub, Nat.reduceEqDiff, q_ltT, q_ltF, q_leT, q_leF, q_eqT, q_eqF, q_inT, q_bz0, q_bz1, b_T, b_F, true_and, and_true, if_true, if_false, h22, h23]
          exact hok (by omega) τ hf h13 h20 h22 (by rw [h23, e1, Nat.min_eq_left (by omega)])
    rw [f_R_next_203, h21, h20]
    by_cases ce : q + i = e
    · exact b_t (by rw [q_le (by omega) (by omega)]; omega) fin
    · have nl : ¬ isL (T (q + i)) := by rcases hE with z | z; exact absurd z ce; exact z
      obtain ⟨c1, c2⟩ := t3 (q + i) (by omega)
      refine b_f (by rw [q_le (by omega) (by omega)]; omega) ⟨by rw [q_in (by omega)]; omega, ?_⟩
      rw [q_cl (by omega), c2]
      refine r_isL c1 (fun z => absurd (by unfold isL; unfold ltr at z; omega) nl) (fun _ => ?_)
      refine b_t rfl ⟨by rw [h20, q_in (by omega)]; omega, ?_⟩
      rw [h20, q_cl (by omega), c2]
      exact r_isD c1 (fun z => absurd (by unfold isL; omega) nl) (fun _ => b_t rfl fin)
  | succ k ih =>
    intro i τ fn a hi hfn ha hf ht h13 h21 h20 h22 h23 hnv
    obtain ⟨t1, t2, t3⟩ := id ht
    obtain ⟨c1, c2⟩ := t3 (q + i) (by omega)
    have il := hL i (by omega)
    have ib := isL_b il
    have c2' : τ.2.1 9 (q + i) = nI (T (q + i)) := c2.trans (by_lo _ (by omega))
    rw [seg_cons] at hnv
    have go : ∀ (τ1 : SS) (fn' a' : Nat), FrN τ τ1 → τ1.1 13 = nI 0 → τ1.1 20 = nI (q + i) → τ1.1 22 = nI 2 → fn' ≤ 1 → a' < 524288 → nv 0 (seg T q n) = (if fn' = 1 then nv (min a' 65536) (seg T (q + (i + 1)) k) else 65536) → f_R_next_340 post (f_R_next_203 post (k + 1)) τ1 (nI (i + 1)) (nI fn') (nI a') := by
      intro τ1 fn' a' g1 g2 g3 g4 g5 g6 g7
      simp (disch := omega) only [f_R_next_340, f_R_next_343, nm, q_lit, q_add, q_sub, q_subN, q_n1, q_mul, q_div, q_nm, q_and, q_or, q_xor, q_shr, q_shl, q_cl, q_a1, q_a3, q_a7, q_a31, q_a63, q_a255, q_a15, q_a16, q_a17, q_a2, q_a4, q_a8, q_a1024, q_a65536, Nat.reduceMod, Nat.reducePow, Nat.reduceDiv, Nat.reduceMul, Nat.reduceAdd, Nat.reduceSub, Nat.reduceEqDiff, q_ltT, q_ltF, q_leT, q_leF, q_eqT, q_eqF, q_inT, q_bz0, q_bz1, b_T, b_F, true_and, and_true, if_true, if_false, sI_1, sI_2, sA_1, sA_2, sA_3, u_at, g3]
      refine ih (i + 1) _ fn' a' (by omega) g5 g6 (((hf.trans g1).sI (by omega) _).sI (by omega) _) ((ht.fr g1).fr (((FrN.refl _).sI (by omega) _).sI (by omega) _)) g2 ?_ ?_ g4 rfl g7
      · show τ1.1 21 = nI e
        rw [g1.1 21 (by omega) (by omega) (by omega) (by omega) (by omega)]; exact h21
      · show nI (q + i + 1) = nI (q + (i + 1)); rfl
    have core : ∀ (τ1 : SS), FrN τ τ1 → τ1.1 13 = nI 0 → τ1.1 20 = nI (q + i) → τ1.1 22 = nI 2 → τ1.1 23 = nI a → f_R_next_277 post (f_R_next_203 post (k + 1)) τ1 (nI (T (q + i))) (nI (i + 1)) (nI fn) := by
      intro τ1 g1 g2 g3 g4 g5
      have bad : nv 0 (seg T q n) = 65536 → f_R_next_306 post (f_R_next_203 post (k + 1)) τ1 (nI (T (q + i))) (nI (i + 1)) (nI 0) := by
        intro z
        simp (disch := omega) only [f_R_next_306, nm, q_lit, q_add, q_sub, q_subN, q_n1, q_mul, q_div, q_nm, q_and, q_or, q_xor, q_shr, q_shl, q_cl, q_a1, q_a3, q_a7, q_a31, q_a63, q_a255, q_a15, q_a16, q_a17, q_a2, q_a4, q_a8, q_a1024, q_a65536, Nat.reduceMod, Nat.reducePow, Nat.reduceDiv, Nat.reduceMul, Nat.reduceAdd, Nat.reduceSub, Nat.reduceEqDiff, q_ltT, q_ltF, q_leT, q_leF, q_eqT, q_eqF, q_inT, q_bz0, q_bz1, b_T, b_F, true_and, and_true, if_true, if_false, g5]
        exact go τ1 0 a g1 g2 g3 g4 (by omega) ha (by rw [if_neg (by omega)]; exact z)
      by_cases f0 : fn = 0
      · subst f0
        rw [if_neg (by omega)] at hnv
        simp (disch := omega) only [f_R_next_277, nm, q_lit, q_add, q_sub, q_subN, q_n1, q_mul, q_div, q_nm, q_and, q_or, q_xor, q_shr, q_shl, q_cl, q_a1, q_a3, q_a7, q_a31, q_a63, q_a255, q_a15, q_a16, q_a17, q_a2, q_a4, q_a8, q_a1024, q_a65536, Nat.reduceMod, Nat.reducePow, Nat.reduceDiv, Nat.reduceMul, Nat.reduceAdd, Nat.reduceSub, Nat.reduceEqDiff, q_ltT, q_ltF, q_leT, q_leF, q_eqT, q_eqF, q_inT, q_bz0, q_bz1, b_T, b_F, true_and, and_true, if_true, if_false, g4]
        exact bad hnv
      have f1 : fn = 1 := by omega
      subst f1
      rw [if_pos rfl] at hnv
      rw [nv_cons] at hnv
      by_cases o1 : T (q + i) < 48
      · rw [if_neg (by omega)] at hnv
        simp (disch := omega) only [f_R_next_277, nm, q_lit, q_add, q_sub, q_subN, q_n1, q_mul, q_div, q_nm, q_and, q_or, q_xor, q_shr, q_shl, q_cl, q_a1, q_a3, q_a7, q_a31, q_a63, q_a255, q_a15, q_a16, q_a17, q_a2, q_a4, q_a8, q_a1024, q_a65536, Nat.reduceMod, Nat.reducePow, Nat.reduceDiv, Nat.reduceMul, Nat.reduceAdd, Nat.reduceSub, Nat.reduceEqDiff, q_ltT, q_ltF, q_leT, q_leF, q_eqT, q_eqF, q_inT, q_bz0, q_bz1, b_T, b_F, true_and, and_true, if_true, if_false, g4]
        exact bad hnv
      by_cases o2 : 55 < T (q + i)
      · rw [if_neg (by omega)] at hnv
        simp (disch := omega) only [f_R_next_277, nm, q_lit, q_add, q_sub, q_subN, q_n1, q_mul, q_div, q_nm, q_and, q_or, q_xor, q_shr, q_shl, q_cl, q_a1, q_a3, q_a7, q_a31, q_a63, q_a255, q_a15, q_a16, q_a17, q_a2, q_a4, q_a8, q_a1024, q_a65536, Nat.reduceMod, Nat.reducePow, Nat.reduceDiv, Nat.reduceMul, Nat.reduceAdd, Nat.reduceSub, Nat.reduceEqDiff, q_ltT, q_ltF, q_leT, q_leF, q_eqT, q_eqF, q_inT, q_bz0, q_bz1, b_T, b_F, true_and, and_true, if_true, if_false, g4]
        exact bad hnv
      rw [if_pos (by omega)] at hnv
      by_cases o3 : 65536 ≤ a
      · simp (disch := omega) only [f_R_next_277, f_R_next_306, nm, q_lit, q_add, q_sub, q_subN, q_n1, q_mul, q_div, q_nm, q_and, q_or, q_xor, q_shr, q_shl, q_cl, q_a1, q_a3, q_a7, q_a31, q_a63, q_a255, q_a15, q_a16, q_a17, q_a2, q_a4, q_a8, q_a1024, q_a65536, Nat.reduceMod, Nat.reducePow, Nat.reduceDiv, Nat.reduceMul, Nat.reduceAdd, Nat.reduceSub, Nat.reduceEqDiff, q_ltT, q_ltF, q_leT, q_leF, q_eqT, q_eqF, q_inT, q_bz0, q_bz1, b_T, b_F, true_and, and_true, if_true, if_false, g4, g5]
        refine go τ1 1 a g1 g2 g3 g4 (by omega) ha ?_
        rw [if_pos rfl, hnv]
        congr 1
        omega
      · simp (disch := omega) only [f_R_next_277, f_R_next_306, nm, q_lit, q_add, q_sub, q_subN, q_n1, q_mul, q_div, q_nm, q_and, q_or, q_xor, q_shr, q_shl, q_cl, q_a1, q_a3, q_a7, q_a31, q_a63, q_a255, q_a15, q_a16, q_a17, q_a2, q_a4, q_a8, q_a1024, q_a65536, Nat.reduceMod, Nat.reducePow, Nat.reduceDiv, Nat.reduceMul, Nat.reduceAdd, Nat.reduceSub, Nat.reduceEqDiff, q_ltT, q_ltF, q_leT, q_leF, q_eqT, q_eqF, q_inT, q_bz0, q_bz1, b_T, b_F, true_and, and_true, if_true, if_false, g4, g5]
        refine go τ1 1 (8 * a + T (q + i) - 48) g1 g2 g3 g4 (by omega) (by omega) ?_
        rw [if_pos rfl, hnv]
        congr 1
        omega
    have step : f_R_next_244 post (f_R_next_203 post (k + 1)) τ (nI i) (nI fn) := by
      simp (disch := omega) only [f_R_next_244, nm, q_lit, q_add, q_sub, q_subN, q_n1, q_mul, q_div, q_nm, q_and, q_or, q_xor, q_shr, q_shl, q_cl, q_a1, q_a3, q_a7, q_a31, q_a63, q_a255, q_a15, q_a16, q_a17, q_a2, q_a4, q_a8, q_a1024, q_a65536, Nat.reduceMod, Nat.reducePow, Nat.reduceDiv, Nat.reduceMul, Nat.reduceAdd, Nat.reduceSub, Nat.reduceEqDiff, q_ltT, q_ltF, q_leT, q_leF, q_eqT, q_eqF, q_inT, q_bz0, q_bz1, b_T, b_F, true_and, and_true, if_true, if_false, h20, c2']
      by_cases c7 : 7 ≤ i + 1
      · simp (disch := omega) only [nm, q_lit, q_add, q_sub, q_subN, q_n1, q_mul, q_div, q_nm, q_and, q_or, q_xor, q_shr, q_shl, q_cl, q_a1, q_a3, q_a7, q_a31, q_a63, q_a255, q_a15, q_a16, q_a17, q_a2, q_a4, q_a8, q_a1024, q_a65536, Nat.reduceMod, Nat.reducePow, Nat.reduceDiv, Nat.reduceMul, Nat.reduceAdd, Nat.reduceSub, Nat.reduceEqDiff, q_ltT, q_ltF, q_leT, q_leF, q_eqT, q_eqF, q_inT, q_bz0, q_bz1, b_T, b_F, true_and, and_true, if_true, if_false]
        exact core τ (FrN.refl _) h13 h20 h22 h23
      · simp (disch := omega) only [nm, q_lit, q_add, q_sub, q_subN, q_n1, q_mul, q_div, q_nm, q_and, q_or, q_xor, q_shr, q_shl, q_cl, q_a1, q_a3, q_a7, q_a31, q_a63, q_a255, q_a15, q_a16, q_a17, q_a2, q_a4, q_a8, q_a1024, q_a65536, Nat.reduceMod, Nat.reducePow, Nat.reduceDiv, Nat.reduceMul, Nat.reduceAdd, Nat.reduceSub, Nat.reduceEqDiff, q_ltT, q_ltF, q_leT, q_leF, q_eqT, q_eqF, q_inT, q_bz0, q_bz1, b_T, b_F, true_and, and_true, if_true, if_false]
        exact core _ ((FrN.refl _).sL _ _) h13 h20 h22 h23
    rw [f_R_next_203, h21, h20]
    refine b_f (by rw [q_le (by omega) (by omega)]; omega) ⟨by rw [q_in (by omega)]; omega, ?_⟩
    rw [q_cl (by omega), c2]
    refine r_isL c1 (fun _ => b_f (by decide) step) (fun nl => ?_)
    refine b_t rfl ⟨by rw [h20, q_in (by omega)]; omega, ?_⟩
    rw [h20, q_cl (by omega), c2]
    exact r_isD c1 (fun _ => b_f (by decide) step) (fun z => absurd il (by unfold isL; unfold ltr at nl; omega))
theorem isN_seg {T : Nat → Nat} {q n : Nat} (h0 : 0 < n) (h6 : n ≤ 6) (hL : ∀ i, i < n → isL (T (q + i))) : isN (seg T q n) := by
  refine ⟨by rw [seg_len]; exact h0, by rw [seg_len]; exact h6, fun c hc => ?_⟩
  unfold seg at hc
  obtain ⟨x, hx, rfl⟩ := List.mem_map.mp hc
  obtain ⟨i, hi, rfl⟩ := List.mem_range'.mp hx
  rw [Nat.one_mul]
  exact hL i hi
theorem r_next61 {T : Nat → Nat} {len e q n : Nat} {t : Tk} {τ0 τ : SS} {post : Int32 → SS → Prop} (he : e ≤ len) (hf : FrN τ0 τ) (ht : RTx τ T len) (h13 : τ.1 13 = nI 0) (h21 : τ.1 21 = nI e) (h20 : τ.1 20 = nI q) (hk : tokAt T e q n t)
    (k1 : t.1 ≠ 1 → ∀ v, FrN τ0 v → v.1 13 = nI 0 → RTk v t → v.1 20 = nI (q + n) → post (nI 1) v) (k2 : t.1 = 1 → ∀ v, RF τ0 1 v → post (nI 0) v) : f_R_next_61 post τ := by
  obtain ⟨t1, t2, t3⟩ := id ht
  have ht' : RTx (sI τ 22 0) T len := ht.fr ((FrN.refl _).sI (by omega) _)
  have hf' : FrN τ0 (sI τ 22 0) := hf.sI (by omega) _
  have hqe : q < e := by rcases hk with ⟨a1, _, a3, _⟩ | ⟨_, _, _, a4, _⟩ <;> omega
  obtain ⟨c1, c2⟩ := t3 q (by omega)
  have e1 : (sI τ 22 0).1 20 = nI q := h20
  have e2 : (sI τ 22 0).1 21 = nI e := h21
  simp only [f_R_next_61, nm]
  rw [e1, e2]
  refine b_f (by rw [q_eq (by omega) (by omega)]; omega) ⟨by rw [q_in (by omega)]; omega, ?_⟩
  have e3 : (sI τ 22 0).2.1 9 (nI q).toNatClampNeg = by8 (T q) := by rw [q_cl (by omega)]; exact c2
  rw [e3]
  have word : isL (T q) → f_R_next_173 post (sI τ 22 0) (by8 (T q)) := by
    intro hl
    rcases hk with ⟨a1, a2, a3, a4, a5⟩ | ⟨a1, _⟩
    · simp only [f_R_next_173]
      refine r_isL c1 (fun y => b_f (by decide) ?_) (fun y => b_t rfl ?_)
      · have nd : ¬ (48 ≤ (seg T q n).getD 0 0 ∧ (seg T q n).getD 0 0 ≤ 57) := by rw [seg_0 T q a1]; unfold ltr at y; omega
        simp only [f_R_next_186, nm]
        refine ⟨n + 1, r_word1 (τ0 := τ0) he a3 a2 a4 (fun h7 v g1 g2 g3 g4 g5 => ?_) (fun h7 v g => ?_) n 0 _ (by omega) (((hf'.sI (by omega) _).sL _ _).sI (by omega) _) (ht'.fr ((((FrN.refl _).sI (by omega) _).sL _ _).sI (by omega) _)) h13 h21 h20 rfl (fun _ => ?_)⟩
        · have et : t = (2, 0, seg T q n) := by rw [a5]; unfold wTok; rw [if_neg nd, if_pos (by rw [seg_len]; omega)]
          refine k1 (by rw [et]; show (2 : Nat) ≠ 1; decide) v g1 g2 (Or.inl ⟨by rw [et], by rw [et]; exact isN_seg a1 (by omega) a2, g4, by rw [et]; exact g5⟩) g3
        · have et : t = (1, 0, []) := by rw [a5]; unfold wTok; rw [if_neg nd, if_neg (by rw [seg_len]; omega)]
          exact k2 (by rw [et]) v g
        · show vp_updL τ.2.2.1 0 0 0 = _
          rw [uL]; rfl
      · have nd : 48 ≤ (seg T q n).getD 0 0 ∧ (seg T q n).getD 0 0 ≤ 57 := by rw [seg_0 T q a1]; unfold isL at hl; unfold ltr at y; omega
        simp only [f_R_next_186, nm]
        refine ⟨n + 1, r_word2 (τ0 := τ0) he a3 a2 a4 (fun h7 v g1 g2 g3 g4 g5 => ?_) (fun h7 v g => ?_) n 0 _ 1 0 (by omega) (by omega) (by omega) (((hf'.sI (by omega) _).sL _ _).sI (by omega) _) (ht'.fr ((((FrN.refl _).sI (by omega) _).sL _ _).sI (by omega) _)) h13 h21 h20 rfl rfl (by rw [if_pos rfl]; rfl)⟩
        · have et : t = (3, nv 0 (seg T q n), []) := by rw [a5]; unfold wTok; rw [if_pos nd, if_pos h7]
          refine k1 (by rw [et]; show (3 : Nat) ≠ 1; decide) v g1 g2 (Or.inr (Or.inl ⟨by rw [et], by rw [et]; exact h7, g4, by rw [et]; exact g5⟩)) g3
        · have et : t = (1, 0, []) := by rw [a5]; unfold wTok; rw [if_pos nd, if_neg h7]
          exact k2 (by rw [et]) v g
    · exact absurd hl a1
  refine r_isL c1 (fun y => b_f (by decide) (word (by unfold isL; unfold ltr at y; omega))) (fun y => b_t rfl ?_)
  refine r_isD c1 (fun z => b_f (by decide) (word (by unfold isL; omega))) (fun z => b_t rfl ?_)
  have nl : ¬ isL (T q) := by unfold isL; unfold ltr at y; omega
  rcases hk with ⟨a1, a2, a3, a4, a5⟩ | ⟨a1, a2, a3, a4, a5⟩
  · exact absurd (a2 0 (by omega)) (by rw [Nat.add_zero]; exact nl)
  · subst a3
    have e4 : (sI (sI (sI τ 22 0) 22 3) 23 (by8 (T q))).1 20 + 1 = nI (q + 1) := by
      show τ.1 20 + 1 = nI (q + 1)
      rw [h20, q_lit, q_add]
    rw [e4]
    have hF : FrN τ0 (sI (sI (sI (sI τ 22 0) 22 3) 23 (by8 (T q))) 20 (nI (q + 1))) := ((hf'.sI (by omega) _).sI (by omega) _).sI (by omega) _
    rcases a5 with ⟨s1, s2⟩ | ⟨s1, s2⟩
    · have good : post 1 (sI (sI (sI (sI τ 22 0) 22 3) 23 (by8 (T q))) 20 (nI (q + 1))) := by
        refine k1 (by rw [s2]; unfold sgn at s1; show T q ≠ 1; omega) _ hF h13 (Or.inr (Or.inr ⟨by rw [s2]; exact s1, rfl, ?_⟩)) rfl
        show by8 (T q) = nI t.1
        rw [s2]
        exact by_lo _ (by unfold sgn at s1; omega)
      rw [by_lo _ (by unfold sgn at s1; omega)] at good ⊢
      unfold sgn at s1
      refine b_c (fun _ => good) (fun n1 => b_c (fun _ => good) (fun n2 => b_c (fun _ => good) (fun n3 => b_c (fun _ => good) (fun n4 => b_c (fun _ => good) (fun n5 => b_c (fun _ => good) (fun n6 => ?_))))))
      rw [q_lit, q_eq (by omega) (by omega)] at n1 n2 n3 n4 n5 n6
      omega
    · have bad : f_R_stop (fun r_27 σ_26 => br (r_27 = 0) (post 0 σ_26) (post 1 σ_26)) (sI (sI (sI (sI τ 22 0) 22 3) 23 (by8 (T q))) 20 (nI (q + 1))) 1 := by
        refine r_stop (f := 1) h13 (b_t rfl (k2 (by rw [s2]) _ ⟨hF.flt (by omega) (by omega) _, rfl, ?_⟩))
        exact hf.1 15 (by omega) (by omega) (by omega) (by omega) (by omega)
      have ne : ∀ x : Nat, x < 128 → T q ≠ x → ¬ by8 (T q) = nI x := by
        intro x hx hn
        rcases by_e c1 with ⟨g, ee⟩ | ⟨g, ee⟩
        · rw [ee, q_eq (by omega) (by omega)]; exact hn
        · rw [ee, q_eq (by omega) (by omega)]; omega
      unfold sgn at s1
      exact b_f (ne 43 (by omega) (by omega)) (b_f (ne 45 (by omega) (by omega)) (b_f (ne 44 (by omega) (by omega)) (b_f (ne 64 (by omega) (by omega)) (b_f (ne 35 (by omega) (by omega)) (b_f (ne 58 (by omega) (by omega)) bad)))))
theorem r_next {T : Nat → Nat} {len e p : Nat} {ts : List Tk} {τ : SS} {post : Int32 → SS → Prop} (he : e ≤ len) (ht : RTx τ T len) (h13 : τ.1 13 = nI 0) (h21 : τ.1 21 = nI e) (h20 : τ.1 20 = nI p) (hl : LexL T e p ts)
    (k1 : ∀ v, FrN τ v → AtR T e ts v → post (nI 1) v) (k2 : ∀ t r, ts = t :: r → t.1 = 1 → ∀ v, RF τ 1 v → post (nI 0) v) : f_R_next post τ := by
  have hl6 : len ≤ 6000 := ht.1
  simp only [f_R_next]
  refine b_t (h13) ?_
  cases ts with
  | nil =>
    obtain ⟨hp, hb⟩ := hl
    refine ⟨1 + (e - p), r_blank (τ := τ) he (e - p) 1 p τ ht h21 h20 (by omega) (fun i a b => hb i a (by omega)) ?_⟩
    rw [show p + (e - p) = e by omega, f_R_next_9]
    refine b_t (by show τ.1 21 ≤ nI e; rw [h21, q_le (by omega) (by omega)]; omega) ?_
    simp only [f_R_next_61, nm]
    refine b_t (by show nI e = τ.1 21; exact h21.symm) (k1 _ (((FrN.refl _).sI (by omega) _).sI (by omega) _) ⟨h13, rfl⟩)
  | cons t r =>
    obtain ⟨q, n, hpq, hb, hk, hr⟩ := hl
    have hqe : q < e := by rcases hk with ⟨a1, _, a3, _⟩ | ⟨_, _, _, a4, _⟩ <;> omega
    refine ⟨1 + (q - p), r_blank (τ := τ) he (q - p) 1 p τ ht h21 h20 (by omega) (fun i a b => hb i a (by omega)) ?_⟩
    rw [show p + (q - p) = q by omega]
    have ht' : RTx (sI τ 20 (nI q)) T len := ht.fr ((FrN.refl _).sI (by omega) _)
    have nb : ¬ bl (T q) := by
      rcases hk with ⟨a1, a2, _⟩ | ⟨_, a2, _⟩
      · have := isL_b (a2 0 (by omega))
        rw [Nat.add_zero] at this
        unfold bl; omega
      · exact a2
    have fin : f_R_next_61 post (sI τ 20 (nI q)) := r_next61 (τ0 := τ) he ((FrN.refl _).sI (by omega) _) ht' h13 h21 rfl hk (fun h1 v g1 g2 g3 g4 => k1 v g1 ⟨g2, h1, g3, q + n, g4, hr⟩) (fun h1 v g => k2 t r rfl h1 v g)
    obtain ⟨c1, c2⟩ := ht'.2.2 q (by omega)
    have ne : ∀ x : Nat, x < 128 → T q ≠ x → ¬ by8 (T q) = nI x := by
      intro x hx hn
      rcases by_e c1 with ⟨g, ee⟩ | ⟨g, ee⟩
      · rw [ee, q_eq (by omega) (by omega)]; exact hn
      · rw [ee, q_eq (by omega) (by omega)]; omega
    have e20 : (sI τ 20 (nI q)).1 20 = nI q := rfl
    have e21 : (sI τ 20 (nI q)).1 21 = nI e := h21
    unfold bl at nb
    rw [f_R_next_9, e20, e21]
    refine b_f (by rw [q_le (by omega) (by omega)]; omega) ⟨by rw [q_in (by omega)]; omega, ?_⟩
    rw [q_cl (by omega), c2]
    exact b_f (ne 32 (by omega) (by omega)) ⟨by rw [q_in (by omega)]; omega, b_f (ne 9 (by omega) (by omega)) fin⟩
