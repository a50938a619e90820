/-! the pure side: statements by their names, in the reference, whole -/
theorem fnN_lt (l : List Nat) : fnN l = 4294967295 ∨ fnN l < 8 := by
  unfold fnN
  (repeat' split) <;> omega
theorem whN_lt (l : List Nat) : whN l = 4294967295 ∨ (0 < whN l ∧ whN l < 7) := by
  unfold whN
  (repeat' split) <;> omega
def sufR (cs : List Nat) : Nat × Nat := if fnN (cs.take 3) ≠ 4294967295 then (if sufA (cs.drop 3) ≠ 4294967295 then (5, 32768 + 256 * fnN (cs.take 3) + sufA (cs.drop 3)) else (0, 0)) else if cs.take 3 = tx 39 then (if sufI (cs.drop 3) ≠ 4294967295 then (6, 24576 + sufI (cs.drop 3)) else (0, 0)) else if whN (cs.take 3) ≠ 4294967295 then (if sufI (cs.drop 3) ≠ 4294967295 then (7, 24576 + 256 * whN (cs.take 3) + sufI (cs.drop 3)) else (0, 0)) else (0, 0)
theorem getD_drop (l : List Nat) (n i : Nat) : (l.drop n).getD i 0 = l.getD (n + i) 0 := by
  simp [List.getD, List.getElem?_drop]
theorem getD_lt {l : List Nat} (h : ∀ c ∈ l, c < 256) (i : Nat) : l.getD i 0 < 256 := by
  by_cases z : i < l.length
  · have : l.getD i 0 = l[i] := by simp [List.getD, List.getElem?_eq_getElem z]
    rw [this]
    exact h _ (List.getElem_mem z)
  · have : l.getD i 0 = 0 := by simp [List.getD, List.getElem?_eq_none (show l.length ≤ i by omega)]
    omega
/-- a letter, or none behind the end -/
theorem r_sufAt {τ : SS} {cs : List Nat} {k a b c : Nat} {A : Int32 → SS → Prop} (h : isN cs) (ha : 0 < a ∧ a < 256) (hb : 0 < b ∧ b < 256) (hc : 0 < c ∧ c < 256) (hk : k ≤ cs.length) (hp : A (nI (ix a b c (cs.getD k 0))) τ) : (cs.length ≤ k → A (nI 0) τ) ∧ (k < cs.length → f_R_letter (fun r σ => f_R_suffix A σ r (nI a) (nI b) (nI c)) τ (jI (nameR 0 cs)) (nI k)) := by
  refine ⟨fun z => ?_, fun z => ?_⟩
  · have e : cs.getD k 0 = 0 := by simp [List.getD, List.getElem?_eq_none (show cs.length ≤ k from z)]
    rw [e] at hp
    have : ix a b c 0 = 0 := by unfold ix; rw [if_neg (by omega), if_neg (by omega), if_neg (by omega)]
    rw [this] at hp
    exact hp
  · exact r_letter h z (r_suf ha.2 hb.2 hc.2 (getD_lt (isN_256 h) k) hp)
theorem r_sufxA {τ : SS} {cs : List Nat} {f s b : Nat} {post : SS → Prop} (h : isN cs) (h3 : 3 ≤ cs.length) (h5 : cs.length ≤ 5) (hf : f < 8) (hp : post (if sufA (cs.drop 3) ≠ 4294967295 then sS τ 5 (32768 + 256 * f + sufA (cs.drop 3)) else sS τ s b)) : br (nI cs.length ≤ 3) (f_R_suffixed_47 post (sS τ s b) (jI (nameR 0 cs)) (nI cs.length) (nI f) 3 0) (f_R_letter (fun r_22 σ_21 => f_R_suffix (fun r_24 σ_23 => f_R_suffixed_47 post σ_23 (jI (nameR 0 cs)) (nI cs.length) (nI f) 3 r_24) σ_21 r_22 90 79 67) (sS τ s b) (jI (nameR 0 cs)) 3) := by
  have e3 : (cs.drop 3).getD 0 0 = cs.getD 3 0 := getD_drop cs 3 0
  have hh := ix_le 90 79 67 (cs.getD 3 0)
  unfold sufA at hp
  rw [e3] at hp
  -- behind the first letter
  have key : f_R_suffixed_47 post (sS τ s b) (jI (nameR 0 cs)) (nI cs.length) (nI f) 3 (nI (ix 90 79 67 (cs.getD 3 0))) := by
    have h10 : ix 90 79 67 (cs.getD 3 0) ≠ 0 → 3 < cs.length := by
      intro z
      by_cases y : 3 < cs.length
      · exact y
      · have e : cs.getD 3 0 = 0 := by simp [List.getD, List.getElem?_eq_none (show cs.length ≤ 3 by omega)]
        rw [e] at z
        exact absurd (by decide) z
    have sub : ∀ k, (k = 3 ∧ ix 90 79 67 (cs.getD 3 0) = 0 ∨ k = 4 ∧ ix 90 79 67 (cs.getD 3 0) ≠ 0) → k ≤ cs.length → ∀ s0 : Int32, (3 : Int32) + s0 = nI k → f_R_suffixed_61 post (sS τ s b) (jI (nameR 0 cs)) (nI cs.length) (nI f) (nI (ix 90 79 67 (cs.getD 3 0))) s0 3 := by
      intro k hk hkl s0 hs0
      have eA : sufA1 (cs.drop 3) = cs.drop k := by
        unfold sufA1
        rw [e3]
        rcases hk with ⟨k1, k2⟩ | ⟨k1, k2⟩
        · rw [if_pos k2, k1]
        · rw [if_neg k2, List.drop_drop, k1]
      rw [eA, getD_drop, Nat.add_zero] at hp
      have hw := ix_le 76 82 83 (cs.getD k 0)
      simp only [f_R_suffixed_61, nm]
      rw [hs0]
      have fin : f_R_suffixed_89 post (sS τ s b) (nI cs.length) (nI f) (nI k) (nI (ix 90 79 67 (cs.getD 3 0))) (nI (ix 76 82 83 (cs.getD k 0))) := by
        have h11 : ix 76 82 83 (cs.getD k 0) ≠ 0 → k < cs.length := by
          intro z
          by_cases y : k < cs.length
          · exact y
          · have e : cs.getD k 0 = 0 := by simp [List.getD, List.getElem?_eq_none (show cs.length ≤ k by omega)]
            rw [e] at z
            exact absurd (by decide) z
        have last : ∀ j, (j = 0 ∧ ix 76 82 83 (cs.getD k 0) = 0 ∨ j = 1 ∧ ix 76 82 83 (cs.getD k 0) ≠ 0) → f_R_suffixed_103 post (sS τ s b) (nI cs.length) (nI f) (nI (ix 90 79 67 (cs.getD 3 0))) (nI (ix 76 82 83 (cs.getD k 0))) (nI j) (nI k) := by
          intro j hj
          have eL : (if ix 76 82 83 (cs.getD k 0) = 0 then cs.drop k else (cs.drop k).drop 1) = cs.drop (k + j) := by
            rcases hj with ⟨j1, j2⟩ | ⟨j1, j2⟩
            · rw [if_pos j2, j1, Nat.add_zero]
            · rw [if_neg j2, List.drop_drop, j1]
          rw [eL] at hp
          simp only [f_R_suffixed_103, nm]
          rw [q_add]
          have k5 : k ≤ 4 := by omega
          have j5 : j ≤ 1 := by omega
          by_cases y : cs.length ≤ k + j
          · have : cs.drop (k + j) = [] := List.drop_of_length_le y
            rw [if_pos this, if_pos (by omega)] at hp
            refine b_t (by rw [q_le (by omega) (by omega)]; exact y) ?_
            have e : ((32768 + (256 * nI f)) + (64 * nI (ix 76 82 83 (cs.getD k 0)))) + (16 * nI (ix 90 79 67 (cs.getD 3 0))) = nI (32768 + 256 * f + (ix 90 79 67 (cs.getD 3 0) * 16 + ix 76 82 83 (cs.getD k 0) * 64)) := by
              simp (disch := omega) only [nm, q_lit, q_add, q_sub, q_subN, q_n1, q_mul, q_div, q_nm, q_and, q_or, q_xor, q_shr, q_shl, q_cl, q_a1, q_a3, q_a7, q_a31, q_a63, q_a255, q_a15, q_a16, q_a17, q_a2, q_a4, q_a8, q_a1024, q_a65536, Nat.reduceMod, Nat.reducePow, Nat.reduceDiv, Nat.reduceMul, Nat.reduceAdd, Nat.reduceSub, Nat.reduceEqDiff]
              exact congrArg nI (by omega)
            rw [e, show (5 : Int32) = nI 5 from rfl, sS_2]
            exact hp
          · have : cs.drop (k + j) ≠ [] := by
              intro z
              have := congrArg List.length z
              rw [List.length_drop, List.length_nil] at this
              omega
            rw [if_neg this, if_neg (by omega)] at hp
            exact b_f (by rw [q_le (by omega) (by omega)]; exact y) hp
        simp only [f_R_suffixed_89]
        by_cases z : ix 76 82 83 (cs.getD k 0) = 0
        · exact b_t (by rw [z]; decide) (last 0 (Or.inl ⟨rfl, z⟩))
        · exact b_f (by rw [q_lit, q_le (by omega) (by omega)]; omega) (last 1 (Or.inr ⟨rfl, z⟩))
      obtain ⟨g1, g2⟩ := r_sufAt (a := 76) (b := 82) (c := 83) (A := fun r_14 σ_13 => f_R_suffixed_89 post σ_13 (nI cs.length) (nI f) (nI k) (nI (ix 90 79 67 (cs.getD 3 0))) r_14) h (by omega) (by omega) (by omega) hkl fin
      have k5 : k ≤ 4 := by omega
      by_cases y : cs.length ≤ k
      · exact b_t (by rw [q_le (by omega) (by omega)]; exact y) (g1 y)
      · exact b_f (by rw [q_le (by omega) (by omega)]; exact y) (g2 (by omega))
    simp only [f_R_suffixed_47]
    by_cases z : ix 90 79 67 (cs.getD 3 0) = 0
    · exact b_t (by rw [z]; decide) (sub 3 (Or.inl ⟨rfl, z⟩) h3 0 (by decide))
    · exact b_f (by rw [q_lit, q_le (by omega) (by omega)]; omega) (sub 4 (Or.inr ⟨rfl, z⟩) (by have := h10 z; omega) 1 (by decide))
  obtain ⟨g1, g2⟩ := r_sufAt (a := 90) (b := 79) (c := 67) (k := 3) (A := fun r_24 σ_23 => f_R_suffixed_47 post σ_23 (jI (nameR 0 cs)) (nI cs.length) (nI f) 3 r_24) h (by omega) (by omega) (by omega) h3 key
  by_cases y : cs.length ≤ 3
  · exact b_t (by rw [q_lit, q_le (by omega) (by omega)]; exact y) (g1 y)
  · exact b_f (by rw [q_lit, q_le (by omega) (by omega)]; exact y) (g2 (by omega))
theorem r_sufxI {τ : SS} {cs : List Nat} {w s b : Nat} {post : SS → Prop} (h : isN cs) (h3 : 3 ≤ cs.length) (h5 : cs.length ≤ 5) (hw : w < 7 ∨ w = 4294967295) (hp : post (if w ≠ 4294967295 ∧ sufI (cs.drop 3) ≠ 4294967295 then sS τ (if w = 0 then 6 else 7) (24576 + 256 * w + sufI (cs.drop 3)) else sS τ s b)) : f_R_suffixed_162 post (sS τ s b) (jI (nameR 0 cs)) (nI cs.length) (nI w) := by
  have e3 : (cs.drop 3).getD 0 0 = cs.getD 3 0 := getD_drop cs 3 0
  have hx := ix_le 83 67 80 (cs.getD 3 0)
  unfold sufI at hp
  rw [e3] at hp
  have set : ∀ c, c ≤ 3 → w < 7 → post (sS τ (if w = 0 then 6 else 7) (24576 + 256 * w + c * 64)) → f_R_suffixed_210 post (sS τ s b) (nI w) (nI c) := by
    intro c hc hw7 hq
    have e : (24576 + (256 * nI w)) + (64 * nI c) = nI (24576 + 256 * w + c * 64) := by
      simp (disch := omega) only [nm, q_lit, q_add, q_sub, q_subN, q_n1, q_mul, q_div, q_nm, q_and, q_or, q_xor, q_shr, q_shl, q_cl, q_a1, q_a3, q_a7, q_a31, q_a63, q_a255, q_a15, q_a16, q_a17, q_a2, q_a4, q_a8, q_a1024, q_a65536, Nat.reduceMod, Nat.reducePow, Nat.reduceDiv, Nat.reduceMul, Nat.reduceAdd, Nat.reduceSub, Nat.reduceEqDiff]
      exact congrArg nI (by omega)
    simp only [f_R_suffixed_210, f_R_suffixed_223, nm]
    by_cases z : w = 0
    · rw [if_pos z] at hq
      refine b_t (by rw [z]; rfl) ?_
      rw [e, show (6 : Int32) = nI 6 from rfl, sS_2]; exact hq
    · rw [if_neg z] at hq
      refine b_f (by rw [q_lit, q_eq (by omega) (by omega)]; exact z) ?_
      rw [e, show (7 : Int32) = nI 7 from rfl, sS_2]; exact hq
  simp only [f_R_suffixed_162]
  rcases hw with hw | hw
  · have wn : w ≠ 4294967295 := by omega
    have pos : ¬ nI w < 0 := by rw [q_lit, q_lt (by omega) (by omega)]; omega
    have hq : cs.length = 3 ∨ cs.length = 4 ∨ cs.length = 5 := by omega
    rcases hq with q | q | q
    · have e0 : cs.getD 3 0 = 0 := by simp [List.getD, List.getElem?_eq_none (show cs.length ≤ 3 by omega)]
      have ed : cs.drop 3 = [] := List.drop_of_length_le (by omega)
      have i0 : ix 83 67 80 0 = 0 := by decide
      rw [e0, i0, if_pos rfl, ed, if_pos rfl, if_pos ⟨wn, by omega⟩] at hp
      rw [q]
      refine b_f (by decide) ?_
      simp only [f_R_suffixed_187]
      exact b_f pos (b_f (by decide) (b_f (by decide) (set 0 (by omega) hw hp)))
    · rw [q]
      refine b_t (by decide) ?_
      refine r_letter (i := 3) h (by omega) (r_suf (a := 83) (b := 67) (c := 80) (by omega) (by omega) (by omega) (getD_lt (isN_256 h) 3) ?_)
      simp only [f_R_suffixed_187]
      refine b_f pos (b_f (by decide) (b_t (by decide) ?_))
      by_cases z : ix 83 67 80 (cs.getD 3 0) = 0
      · have ed : cs.drop 3 ≠ [] := by
          intro y
          have := congrArg List.length y
          rw [List.length_drop, List.length_nil] at this
          omega
        rw [if_pos z, if_neg ed, if_neg (by omega)] at hp
        exact b_t (by rw [z]; rfl) hp
      · have ed : (cs.drop 3).drop 1 = [] := by rw [List.drop_drop]; exact List.drop_of_length_le (by omega)
        rw [if_neg z, if_pos ed, if_pos ⟨wn, by omega⟩] at hp
        exact b_f (by rw [q_lit, q_eq (by omega) (by omega)]; exact z) (set _ hx hw hp)
    · have ed : ∀ n, n ≤ 4 → cs.drop n ≠ [] := by
        intro n hn y
        have := congrArg List.length y
        rw [List.length_drop, List.length_nil] at this
        omega
      have hp' : post (sS τ s b) := by
        by_cases z : ix 83 67 80 (cs.getD 3 0) = 0
        · rw [if_pos z, if_neg (ed 3 (by omega)), if_neg (by omega)] at hp; exact hp
        · rw [if_neg z, List.drop_drop, if_neg (ed _ (by omega)), if_neg (by omega)] at hp; exact hp
      rw [q]
      refine b_f (by decide) ?_
      simp only [f_R_suffixed_187]
      exact b_f pos (b_t (by decide) hp')
  · rw [if_neg (by omega)] at hp
    have neg : nI w < 0 := by rw [hw]; decide
    have f187 : ∀ x : Int32, f_R_suffixed_187 post (sS τ s b) (nI cs.length) (nI w) x := fun x => b_t neg hp
    refine b_c (fun z => ?_) (fun _ => f187 _)
    rw [q_lit, q_eq (by omega) (by omega)] at z
    exact r_letter (i := 3) h (by omega) (r_suf (a := 83) (b := 67) (c := 80) (by omega) (by omega) (by omega) (getD_lt (isN_256 h) 3) (f187 _))
theorem r_sufx {τ : SS} {cs : List Nat} {s b : Nat} {post : SS → Prop} (h : isN cs) (h3 : 3 ≤ cs.length) (h5 : cs.length ≤ 5) (hp : post (if (sufR cs).1 = 0 then sS τ s b else sS τ (sufR cs).1 (sufR cs).2)) : f_R_suffixed post (sS τ s b) (jI (nameR 0 cs)) (nI cs.length) := by
  have h3' := isN_take h h3
  have non : sufR cs = (0, 0) → post (sS τ s b) := by
    intro e
    rw [e, if_pos rfl] at hp
    exact hp
  have som : ∀ x y : Nat, x ≠ 0 → sufR cs = (x, y) → post (sS τ x y) := by
    intro x y hx e
    rw [e, if_neg hx] at hp
    exact hp
  simp only [f_R_suffixed]
  refine r_front h h3 (r_fn h3' ?_)
  rcases fnN_lt (cs.take 3) with f | f
  · have n1 : ¬ fnN (cs.take 3) ≠ 4294967295 := by omega
    rw [f]
    refine b_t (by decide) (r_eqb h3' (tx_N 39 (by omega) (by omega)) nt_39 (fun z => ?_) (fun z => r_wh h3' ?_))
    · refine r_sufxI (w := 0) h h3 h5 (Or.inl (by omega)) ?_
      by_cases y : sufI (cs.drop 3) ≠ 4294967295
      · rw [if_pos ⟨by omega, y⟩, if_pos rfl]
        exact som 6 _ (by omega) (by unfold sufR; rw [if_neg n1, if_pos z, if_pos y])
      · rw [if_neg (fun q => y q.2)]
        exact non (by unfold sufR; rw [if_neg n1, if_pos z, if_neg y])
    · refine r_sufxI h h3 h5 (by rcases whN_lt (cs.take 3) with q | q; exact Or.inr q; exact Or.inl q.2) ?_
      rcases whN_lt (cs.take 3) with q | q
      · rw [if_neg (fun x => x.1 q)]
        exact non (by unfold sufR; rw [if_neg n1, if_neg z, if_neg (fun x => x q)])
      · have qn : whN (cs.take 3) ≠ 4294967295 := by omega
        by_cases y : sufI (cs.drop 3) ≠ 4294967295
        · rw [if_pos ⟨qn, y⟩, if_neg (by omega)]
          exact som 7 _ (by omega) (by unfold sufR; rw [if_neg n1, if_neg z, if_pos qn, if_pos y])
        · rw [if_neg (fun q => y q.2)]
          exact non (by unfold sufR; rw [if_neg n1, if_neg z, if_pos qn, if_neg y])
  · have n1 : fnN (cs.take 3) ≠ 4294967295 := by omega
    refine b_f (by rw [q_lit, q_lt (by omega) (by omega)]; omega) (r_sufxA h h3 h5 f ?_)
    by_cases y : sufA (cs.drop 3) ≠ 4294967295
    · rw [if_pos y]
      exact som 5 _ (by omega) (by unfold sufR; rw [if_pos n1, if_pos y])
    · rw [if_neg y]
      exact non (by unfold sufR; rw [if_pos n1, if_neg y])
