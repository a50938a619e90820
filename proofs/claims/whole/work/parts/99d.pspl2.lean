/-! the pure side: the class's items, words -/
theorem nameC_snoc (cs : List Nat) (c : Nat) (h : cs.length < 8) : nameC (cs ++ [c]) = nameC cs + c * 256 ^ (7 - cs.length) := by
  rw [nameC_e (cs ++ [c]) (by rw [List.length_append]; simp only [List.length_cons, List.length_nil]; omega), nameC_e cs (by omega), nameR_snoc, List.length_append]
  simp only [List.length_cons, List.length_nil, Nat.zero_add]
  rw [show 8 - (cs.length + 1) = 7 - cs.length by omega, Nat.add_mul, show 8 - cs.length = (7 - cs.length) + 1 by omega, Nat.pow_succ, Nat.mul_assoc, Nat.mul_comm 256]
theorem c_nameL {σ : SS} {T : Nat → Nat} {len q n : Nat} {post : Int64 → SS → Prop} (ht : CTx σ T len) (hn : n ≤ 6) (hq : q + n ≤ len) (hL : ∀ i, i < n → isL (T (q + i))) (h36 : σ.1 36 = nI (q + n)) (h : post (jI (nameC (seg T q n) + 2)) σ) (k : Nat) : ∀ i, i + k = n → f_I_nameFrom_18 post (k + 1) σ (nI q) (jI (nameC (seg T q i))) (nI (q + i)) := by
  obtain ⟨t1, t2, t3⟩ := id ht
  induction k with
  | zero =>
    intro i hi
    have : i = n := by omega
    subst this
    rw [f_I_nameFrom_18, h36]
    refine b_t (by rw [q_le (by omega) (by omega)]; omega) ?_
    have e : jI (nameC (seg T q i)) ||| 2 = jI (nameC (seg T q i) + 2) := by
      rw [j_lit, j_or]
      congr 1
      rw [nameC_e _ (by rw [seg_len]; omega), seg_len]
      obtain ⟨m, hm⟩ : ∃ m, 8 - i = m + 1 := ⟨7 - i, by omega⟩
      rw [hm, Nat.pow_succ, ← Nat.mul_assoc]
      exact or_add (b := 2) 8 _ (by omega)
    rw [e]; exact h
  | succ k ih =>
    intro i hi
    obtain ⟨c1, c2⟩ := t3 (q + i) (by omega)
    have ib := isL_b (hL i (by omega))
    rw [f_I_nameFrom_18, h36]
    refine b_f (by rw [q_le (by omega) (by omega)]; omega) ⟨by rw [q_in (by omega)]; omega, ?_⟩
    have e : jI (nameC (seg T q i)) ||| (((σ.2.1 12 (nI (q + i)).toNatClampNeg).toInt64) <<< ((56 - (8 * (nI (q + i) - nI q))).toInt64 &&& 63)) = jI (nameC (seg T q (i + 1))) := by
      rw [q_cl (by omega), c2, n_j (by omega)]
      have e1 : (56 - (8 * (nI (q + i) - nI q))).toInt64 &&& 63 = jI (8 * (7 - i)) := by
        simp (disch := omega) only [nm, q_lit, q_add, q_sub, q_subN, q_n1, q_mul, q_div, q_nm, q_and, q_or, q_xor, q_shr, q_shl, q_cl, q_a1, q_a3, q_a7, q_a31, q_a63, q_a255, q_a15, q_a16, q_a17, q_a2, q_a4, q_a8, q_a1024, q_a65536, Nat.reduceMod, Nat.reducePow, Nat.reduceDiv, Nat.reduceMul, Nat.reduceAdd, Nat.reduceSub, Nat.reduceEqDiff]
        rw [n_j (by omega), j_lit, j_and, q_a63, Nat.mod_eq_of_lt (by omega)]
        congr 1; omega
      rw [e1, j_shl (by omega), j_or, seg_snoc, nameC_snoc _ _ (by rw [seg_len]; omega), seg_len]
      congr 1
      rw [Nat.pow_mul, nameC_e _ (by rw [seg_len]; omega), seg_len]
      have hp : T (q + i) * 256 ^ (7 - i) < 256 ^ (8 - i) := by
        rw [show 8 - i = (7 - i) + 1 by omega, Nat.pow_succ, Nat.mul_comm]
        exact Nat.mul_lt_mul_of_pos_left (by omega) (Nat.pos_of_ne_zero (by simp))
      have := or_add (b := T (q + i) * 256 ^ (7 - i)) (8 * (8 - i)) (nameR 0 (seg T q i)) (by rw [Nat.pow_mul]; exact hp)
      rw [Nat.pow_mul] at this
      exact this
    simp only [nm]
    rw [e, show nI (q + i) + 1 = nI (q + (i + 1)) from q_add (q + i) 1]
    exact ih (i + 1) (by omega)
theorem c_numL {σ : SS} {T : Nat → Nat} {len q n : Nat} {post : Int64 → SS → Prop} (ht : CTx σ T len) (hq : q + n ≤ len) (hL : ∀ i, i < n → isL (T (q + i))) (h36 : σ.1 36 = nI (q + n)) (h1 : nv 0 (seg T q n) < 65536 → post (jI (nv 0 (seg T q n) * 65536 + 3)) σ) (h0 : ¬ nv 0 (seg T q n) < 65536 → post (jI 1) σ) (k : Nat) : ∀ i a, i + k = n → a ≤ 65536 → nv 0 (seg T q n) = nv a (seg T (q + i) k) → f_I_numberFrom_5 post (k + 1) σ (jI a) (nI (q + i)) := by
  obtain ⟨t1, t2, t3⟩ := id ht
  induction k with
  | zero =>
    intro i a hi ha hv
    have : i = n := by omega
    subst this
    have hv : nv 0 (seg T q i) = a := hv
    rw [f_I_numberFrom_5, h36]
    refine b_t (by rw [q_le (by omega) (by omega)]; omega) ?_
    by_cases c : a < 65536
    · refine b_t (by rw [q_lit, j_lit, j_cl, j_le (by omega) (by omega)]; omega) ?_
      have e : (jI a <<< ((16 : Int32).toInt64 &&& 63)) ||| 3 = jI (a * 65536 + 3) := by
        rw [show (16 : Int32).toInt64 &&& 63 = jI 16 by decide, j_shl (by omega), j_lit, j_or]
        congr 1
        exact or_add (b := 3) 16 a (by omega)
      rw [e, ← hv]
      exact h1 (by omega)
    · refine b_f (by rw [q_lit, j_lit, j_cl, j_le (by omega) (by omega)]; omega) (h0 (by omega))
  | succ k ih =>
    intro i a hi ha hv
    obtain ⟨c1, c2⟩ := t3 (q + i) (by omega)
    rw [seg_cons, nv_cons] at hv
    rw [f_I_numberFrom_5, h36]
    refine b_f (by rw [q_le (by omega) (by omega)]; omega) ⟨by rw [q_in (by omega)]; omega, ?_⟩
    simp only [nm]
    rw [q_cl (by omega), c2]
    by_cases o1 : T (q + i) < 48
    · rw [if_neg (by omega)] at hv
      exact b_t (by rw [q_lit, q_lt (by omega) (by omega)]; exact o1) (h0 (by omega))
    refine b_f (by rw [q_lit, q_lt (by omega) (by omega)]; exact o1) ?_
    by_cases o2 : T (q + i) ≤ 55
    · rw [if_pos (by omega)] at hv
      refine b_t (by rw [q_lit, q_le (by omega) (by omega)]; exact o2) ?_
      have e1 : (jI a * 8) + ((nI (T (q + i)) - 48).toInt64) = jI (a * 8 + (T (q + i) - 48)) := by
        simp (disch := omega) only [nm, q_lit, q_add, q_sub, q_subN, q_n1, q_mul, q_div, q_nm, q_and, q_or, q_xor, q_shr, q_shl, q_cl, q_a1, q_a3, q_a7, q_a31, q_a63, q_a255, q_a15, q_a16, q_a17, q_a2, q_a4, q_a8, q_a1024, q_a65536, Nat.reduceMod, Nat.reducePow, Nat.reduceDiv, Nat.reduceMul, Nat.reduceAdd, Nat.reduceSub, Nat.reduceEqDiff]
        rw [n_j (by omega), j_lit, j_mul, j_add]
      have e2 : (if 65536 < jI (a * 8 + (T (q + i) - 48)) then 65536 else jI (a * 8 + (T (q + i) - 48))) = jI (min (a * 8 + (T (q + i) - 48)) 65536) := by
        have el : (65536 < jI (a * 8 + (T (q + i) - 48))) ↔ 65536 < a * 8 + (T (q + i) - 48) := by
          have ee : ∀ n : Nat, n < 9223372036854775808 → (jI n).toInt = n := fun n h => Int64.toInt_ofNat_of_lt (by omega)
          rw [j_lit, Int64.lt_iff_toInt_lt, ee _ (by omega), ee _ (by omega)]
          omega
        by_cases z : 65536 < a * 8 + (T (q + i) - 48)
        · rw [if_pos (el.mpr z), j_lit]; congr 1; omega
        · rw [if_neg (fun y => z (el.mp y))]; congr 1; omega
      rw [e1, e2, show nI (q + i) + 1 = nI (q + (i + 1)) from q_add (q + i) 1]
      exact ih (i + 1) _ (by omega) (by omega) hv
    · rw [if_neg (by omega)] at hv
      exact b_f (by rw [q_lit, q_le (by omega) (by omega)]; exact o2) (h0 (by omega))
theorem itC_w (cs : List Nat) : itC (wTok cs) = if 48 ≤ cs.getD 0 0 ∧ cs.getD 0 0 ≤ 57 then (if nv 0 cs < 65536 then nv 0 cs * 65536 + 3 else 1) else (if cs.length ≤ 6 then nameC cs + 2 else 1) := by
  unfold wTok itC
  by_cases h1 : 48 ≤ cs.getD 0 0 ∧ cs.getD 0 0 ≤ 57
  · rw [if_pos h1, if_pos h1]
    by_cases h2 : nv 0 cs < 65536
    · rw [if_pos h2, if_pos h2, if_neg (show ¬ (3 : Nat) = 2 by decide), if_pos (show (3 : Nat) = 3 by rfl)]
    · rw [if_neg h2, if_neg h2, if_neg (show ¬ (1 : Nat) = 2 by decide), if_neg (show ¬ (1 : Nat) = 3 by decide)]
  · rw [if_neg h1, if_neg h1]
    by_cases h2 : cs.length ≤ 6
    · rw [if_pos h2, if_pos h2, if_pos (show (2 : Nat) = 2 by rfl)]
    · rw [if_neg h2, if_neg h2, if_neg (show ¬ (1 : Nat) = 2 by decide), if_neg (show ¬ (1 : Nat) = 3 by decide)]
theorem c_letL {σ0 : SS} {T : Nat → Nat} {len q n c : Nat} {post : SS → Prop} (hn : 0 < n) (hq : q + n ≤ len) (hc : c < 6001) (hL : ∀ i, i < n → isL (T (q + i))) (hE : q + n = len ∨ ¬ isL (T (q + n))) (h : ∀ u, FrS σ0 u → u.1 36 = nI (q + n) → u.1 35 = nI (c + 1) → u.2.2.2 13 c = jI (itC (wTok (seg T q n))) → (∀ i, i ≠ c → u.2.2.2 13 i = σ0.2.2.2 13 i) → post u) (k : Nat) : ∀ i (σ : SS), i + k = n → CTx σ T len → FrS σ0 σ → σ.1 36 = nI (q + i) → σ.1 35 = nI c → σ.2.2.2 13 = σ0.2.2.2 13 → f_I_splitLetters_5 post (k + 1) σ (nI (T q)) (nI q) := by
  induction k with
  | zero =>
    intro i σ hi ht hf h36 h35 h13
    obtain ⟨t1, t2, t3⟩ := id ht
    have : i = n := by omega
    subst this
    obtain ⟨c1, _⟩ := t3 q (by omega)
    have fin : f_I_splitLetters_44 post σ (nI (T q)) (nI q) := by
      have add : ∀ x, x = itC (wTok (seg T q i)) → f_I_splitLetters_65 post σ (jI x) := by
        intro x hx
        refine c_add hc h35 (fun u g => ?_)
        obtain ⟨g1, g2, g3, g4, g5⟩ := g
        refine h u (hf.trans g1) (g2.trans h36) g3 (by rw [g4, hx]) (fun j hj => ?_)
        rw [g5 j hj, h13]
      simp only [f_I_splitLetters_44]
      refine c_isD c1 (fun z => b_f (by decide) ?_) (fun z => b_t rfl ?_)
      · have nd : 48 ≤ (seg T q i).getD 0 0 ∧ (seg T q i).getD 0 0 ≤ 57 := by rw [seg_0 T q hn]; exact z
        refine ⟨i + 1, c_numL ht hq hL h36 (fun y => ?_) (fun y => ?_) i 0 0 (by omega) (by omega) rfl⟩
        · exact add _ (by rw [itC_w, if_pos nd, if_pos y])
        · exact add _ (by rw [itC_w, if_pos nd, if_neg y])
      · have nd : ¬ (48 ≤ (seg T q i).getD 0 0 ∧ (seg T q i).getD 0 0 ≤ 57) := by rw [seg_0 T q hn]; exact z
        have e : nI (q + i) - nI q = nI i := by
          rw [q_sub (by omega)]; congr 1; omega
        simp only [f_I_nameFrom]
        rw [h36, e]
        by_cases y : i ≤ 6
        · refine b_t (by rw [q_lit, q_le (by omega) (by omega)]; exact y) ⟨i + 1, c_nameL ht y hq hL h36 ?_ i 0 (by omega)⟩
          exact add _ (by rw [itC_w, if_neg nd, seg_len, if_pos y])
        · refine b_f (by rw [q_lit, q_le (by omega) (by omega)]; exact y) ?_
          exact add 1 (by rw [itC_w, if_neg nd, seg_len, if_neg y])
    rw [f_I_splitLetters_5, t2, h36]
    by_cases ce : q + i = len
    · exact b_t (by rw [q_le (by omega) (by omega)]; omega) fin
    · obtain ⟨d1, d2⟩ := t3 (q + i) (by omega)
      have nl : ¬ isL (T (q + i)) := by rcases hE with z | z; exact absurd z ce; exact z
      refine b_f (by rw [q_le (by omega) (by omega)]; omega) ⟨by rw [q_in (by omega)]; omega, ?_⟩
      rw [q_cl (by omega), d2]
      exact c_goes d1 (fun z => absurd z nl) (fun _ => b_t rfl fin)
  | succ k ih =>
    intro i σ hi ht hf h36 h35 h13
    obtain ⟨t1, t2, t3⟩ := id ht
    obtain ⟨d1, d2⟩ := t3 (q + i) (by omega)
    rw [f_I_splitLetters_5, t2, h36]
    refine b_f (by rw [q_le (by omega) (by omega)]; omega) ⟨by rw [q_in (by omega)]; omega, ?_⟩
    rw [q_cl (by omega), d2]
    refine c_goes d1 (fun _ => b_f (by decide) ?_) (fun z => absurd (hL i (by omega)) z)
    simp only [nm]
    rw [h36, show nI (q + i) + 1 = nI (q + (i + 1)) from q_add (q + i) 1]
    exact ih (i + 1) _ (by omega) (ht.fr ((FrS.refl _).sI (by omega) _)) (hf.sI (by omega) _) rfl h35 h13
