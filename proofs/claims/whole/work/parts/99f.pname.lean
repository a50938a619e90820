/-! the pure side: names -/
theorem nameR_inj (cs : List Nat) : ∀ ds : List Nat, cs.length = ds.length → (∀ c ∈ cs, c < 256) → (∀ c ∈ ds, c < 256) → nameR 0 cs = nameR 0 ds → cs = ds := by
  induction cs with
  | nil =>
    intro ds h1 _ _ _
    cases ds with
    | nil => rfl
    | cons c r => simp at h1
  | cons c r ih =>
    intro ds h1 h2 h3 h4
    cases ds with
    | nil => simp at h1
    | cons d s =>
      have hl : r.length = s.length := by simpa using h1
      have b1 := nameR_lt r (fun x hx => h2 x (List.mem_cons_of_mem _ hx))
      have b2 := nameR_lt s (fun x hx => h3 x (List.mem_cons_of_mem _ hx))
      have e1 : nameR 0 (c :: r) = c * 256 ^ r.length + nameR 0 r := by
        show nameR (0 * 256 + c) r = _
        rw [nameR_a r (0 * 256 + c), Nat.zero_mul, Nat.zero_add]
      have e2 : nameR 0 (d :: s) = d * 256 ^ r.length + nameR 0 s := by
        show nameR (0 * 256 + d) s = _
        rw [nameR_a s (0 * 256 + d), Nat.zero_mul, Nat.zero_add, hl]
      rw [← hl] at b2
      rw [e1, e2] at h4
      have hp : 0 < 256 ^ r.length := Nat.pos_of_ne_zero (by simp)
      have hcd : c = d := by
        have f1 : (c * 256 ^ r.length + nameR 0 r) / 256 ^ r.length = c := by rw [Nat.mul_comm, Nat.mul_add_div hp, Nat.div_eq_of_lt b1, Nat.add_zero]
        have f2 : (d * 256 ^ r.length + nameR 0 s) / 256 ^ r.length = d := by rw [Nat.mul_comm, Nat.mul_add_div hp, Nat.div_eq_of_lt b2, Nat.add_zero]
        rw [← f1, ← f2, h4]
      subst hcd
      rw [ih s hl (fun x hx => h2 x (List.mem_cons_of_mem _ hx)) (fun x hx => h3 x (List.mem_cons_of_mem _ hx)) (by omega)]
theorem nameR_zeros (cs : List Nat) (k : Nat) : nameR 0 (cs ++ List.replicate k 0) = nameR 0 cs * 256 ^ k := by
  induction k with
  | zero => simp
  | succ k ih =>
    rw [List.replicate_succ', ← List.append_assoc, nameR_snoc, ih, Nat.pow_succ, Nat.mul_assoc, Nat.add_zero]
theorem isN_256 {cs : List Nat} (h : isN cs) : ∀ c ∈ cs, c < 256 := fun c hc => by have := isL_b (h.2.2 c hc); omega
theorem isN_pos {cs : List Nat} (h : isN cs) : ∀ c ∈ cs, c ≠ 0 := fun c hc => by have := isL_b (h.2.2 c hc); omega
theorem isN_64 {cs : List Nat} (h : isN cs) : nameC cs < 18446744073709551616 := by
  rw [nameC_e cs (by have := h.2.1; omega)]
  have h1 := (isN_lo h).2
  have h2 := h.2.1
  have : nameR 0 cs * 256 ^ (8 - cs.length) < 256 ^ cs.length * 256 ^ (8 - cs.length) := Nat.mul_lt_mul_of_pos_right h1 (Nat.pos_of_ne_zero (by simp))
  rw [← Nat.pow_add, show cs.length + (8 - cs.length) = 8 by omega] at this
  exact this
theorem eqR {cs ds : List Nat} (h1 : isN cs) (h2 : isN ds) : (jI (nameR 0 cs) = jI (nameR 0 ds)) ↔ cs = ds := by
  have b1 := isN_48 h1
  have b2 := isN_48 h2
  rw [j_eq (by omega) (by omega)]
  refine ⟨fun e => ?_, fun e => by rw [e]⟩
  have l1 := isN_lo h1
  have l2 := isN_lo h2
  have hl : cs.length = ds.length := by
    have p1 := h1.1
    have p2 := h2.1
    rcases Nat.lt_trichotomy cs.length ds.length with z | z | z
    · have : 256 ^ cs.length ≤ 256 ^ (ds.length - 1) := Nat.pow_le_pow_right (by omega) (by omega)
      omega
    · exact z
    · have : 256 ^ ds.length ≤ 256 ^ (cs.length - 1) := Nat.pow_le_pow_right (by omega) (by omega)
      omega
  exact nameR_inj cs ds hl (isN_256 h1) (isN_256 h2) e
theorem eqC {cs ds : List Nat} (h1 : isN cs) (h2 : isN ds) : (jI (nameC cs) = jI (nameC ds)) ↔ cs = ds := by
  rw [j_eq (isN_64 h1) (isN_64 h2)]
  refine ⟨fun e => ?_, fun e => by rw [e]⟩
  have l1 := h1.2.1
  have l2 := h2.2.1
  rw [nameC_e cs (by omega), nameC_e ds (by omega), ← nameR_zeros, ← nameR_zeros] at e
  have e2 := nameR_inj _ _ (by simp only [List.length_append, List.length_replicate]; omega) (fun c hc => by
    rcases List.mem_append.mp hc with z | z
    · exact isN_256 h1 c z
    · rw [(List.mem_replicate.mp z).2]; decide) (fun c hc => by
    rcases List.mem_append.mp hc with z | z
    · exact isN_256 h2 c z
    · rw [(List.mem_replicate.mp z).2]; decide) e
  have f : ∀ (l : List Nat) (k : Nat), (∀ c ∈ l, c ≠ 0) → (l ++ List.replicate k 0).filter (· ≠ 0) = l := by
    intro l k hl
    rw [List.filter_append]
    have g1 : l.filter (· ≠ 0) = l := List.filter_eq_self.mpr (fun a ha => by simp [hl a ha])
    have g2 : (List.replicate k 0).filter (· ≠ 0) = [] := by simp
    rw [g1, g2, List.append_nil]
  rw [← f cs (8 - cs.length) (isN_pos h1), e2, f ds _ (isN_pos h2)]
/-- the numbers that names have in every text: 4294967295 for none -/
def givN (cs : List Nat) : Nat := if cs = tx 5 then 8 else if cs = tx 6 then 9 else if cs = tx 7 then 10 else if cs = tx 8 then 63 else if cs = tx 9 then 1 else if cs = tx 10 then 2 else if cs = tx 11 then 3 else if cs = tx 12 then 4 else if cs = tx 13 then 5 else if cs = tx 14 then 6 else if cs = tx 15 then 7 else 4294967295
theorem eG_K : ∀ i, i < 11 → eG_key i = jI (nameC (tx (5 + i))) := by decide +kernel
theorem eG_n : eG_number 0 = nI 8 ∧ eG_number 1 = nI 9 ∧ eG_number 2 = nI 10 ∧ eG_number 3 = nI 63 ∧ eG_number 4 = nI 1 ∧ eG_number 5 = nI 2 ∧ eG_number 6 = nI 3 ∧ eG_number 7 = nI 4 ∧ eG_number 8 = nI 5 ∧ eG_number 9 = nI 6 ∧ eG_number 10 = nI 7 := by decide
theorem c_givS {σ : SS} {cs : List Nat} {n i : Nat} {post : Int32 → SS → Prop} (h : isN cs) (hi : i < 11) (h1 : cs = tx (5 + i) → post (eG_number i) σ) (h2 : cs ≠ tx (5 + i) → f_G_numberOf_2 post n σ (jI (nameC cs)) (nI (i + 1))) : f_G_numberOf_2 post (n + 1) σ (jI (nameC cs)) (nI i) := by
  rw [f_G_numberOf_2]
  refine b_f (by rw [q_lit, q_le (by omega) (by omega)]; omega) ⟨by rw [q_in (by omega)]; omega, ?_⟩
  rw [q_cl (by omega), eG_K i hi]
  refine b_c (fun z => ?_) (fun z => ?_)
  · rw [q_lit, j_c0, eqC (tx_N _ (by omega) (by omega)) h] at z
    exact ⟨by rw [q_in (by omega)]; omega, h1 z.symm⟩
  · rw [q_lit, j_c0, eqC (tx_N _ (by omega) (by omega)) h] at z
    simp only [nm]
    rw [show nI i + 1 = nI (i + 1) from q_add i 1]
    exact h2 (fun y => z y.symm)
theorem c_giv {σ : SS} {cs : List Nat} {post : Int32 → SS → Prop} (h : isN cs) (hp : post (nI (givN cs)) σ) : f_G_numberOf post σ (jI (nameC cs)) := by
  obtain ⟨n0, n1, n2, n3, n4, n5, n6, n7, n8, n9, n10⟩ := eG_n
  unfold givN at hp
  refine ⟨12, ?_⟩
  refine c_givS (i := 0) h (by omega) (fun z => by rw [if_pos z] at hp; rw [n0]; exact hp) (fun z0 => ?_)
  rw [if_neg z0] at hp
  refine c_givS (i := 1) h (by omega) (fun z => by rw [if_pos z] at hp; rw [n1]; exact hp) (fun z1 => ?_)
  rw [if_neg z1] at hp
  refine c_givS (i := 2) h (by omega) (fun z => by rw [if_pos z] at hp; rw [n2]; exact hp) (fun z2 => ?_)
  rw [if_neg z2] at hp
  refine c_givS (i := 3) h (by omega) (fun z => by rw [if_pos z] at hp; rw [n3]; exact hp) (fun z3 => ?_)
  rw [if_neg z3] at hp
  refine c_givS (i := 4) h (by omega) (fun z => by rw [if_pos z] at hp; rw [n4]; exact hp) (fun z4 => ?_)
  rw [if_neg z4] at hp
  refine c_givS (i := 5) h (by omega) (fun z => by rw [if_pos z] at hp; rw [n5]; exact hp) (fun z5 => ?_)
  rw [if_neg z5] at hp
  refine c_givS (i := 6) h (by omega) (fun z => by rw [if_pos z] at hp; rw [n6]; exact hp) (fun z6 => ?_)
  rw [if_neg z6] at hp
  refine c_givS (i := 7) h (by omega) (fun z => by rw [if_pos z] at hp; rw [n7]; exact hp) (fun z7 => ?_)
  rw [if_neg z7] at hp
  refine c_givS (i := 8) h (by omega) (fun z => by rw [if_pos z] at hp; rw [n8]; exact hp) (fun z8 => ?_)
  rw [if_neg z8] at hp
  refine c_givS (i := 9) h (by omega) (fun z => by rw [if_pos z] at hp; rw [n9]; exact hp) (fun z9 => ?_)
  rw [if_neg z9] at hp
  refine c_givS (i := 10) h (by omega) (fun z => by rw [if_pos z] at hp; rw [n10]; exact hp) (fun z10 => ?_)
  rw [if_neg z10] at hp
  rw [f_G_numberOf_2]
  refine b_t (by decide) ?_
  rw [q_lit, q_n1]; exact hp
theorem r_among {σ : SS} {cs a b c : List Nat} {d : Int64} {post : Int32 → SS → Prop} {xa xb xc : Int64} (h : isN cs) (ha : isN a) (hb : isN b) (hc : isN c) (ea : xa = jI (nameR 0 a)) (eb : xb = jI (nameR 0 b)) (ec : xc = jI (nameR 0 c)) (h0 : cs = a → post (nI 0) σ) (h1 : cs ≠ a → cs = b → post (nI 1) σ) (h2 : cs ≠ a → cs ≠ b → cs = c → post (nI 2) σ) (h3 : cs ≠ a → cs ≠ b → cs ≠ c → br (lg_cmp (jI (nameR 0 cs)) d = 0) (post (nI 3) σ) (post (nI 4294967295) σ)) : f_R_among post σ (jI (nameR 0 cs)) xa xb xc d := by
  subst ea; subst eb; subst ec
  simp only [f_R_among]
  refine b_c (fun z => ?_) (fun z => ?_)
  · rw [q_lit, j_c0, eqR h ha] at z; exact h0 z
  rw [q_lit, j_c0, eqR h ha] at z
  refine b_c (fun y => ?_) (fun y => ?_)
  · rw [q_lit, j_c0, eqR h hb] at y; exact h1 z y
  rw [q_lit, j_c0, eqR h hb] at y
  refine b_c (fun x => ?_) (fun x => ?_)
  · rw [q_lit, j_c0, eqR h hc] at x; exact h2 z y x
  rw [q_lit, j_c0, eqR h hc] at x
  have := h3 z y x
  rw [← q_n1] at this
  exact this
theorem nt_5 : (5526601 : Int64) = jI (nameR 0 (tx 5)) := by decide +kernel
theorem nt_6 : (5526607 : Int64) = jI (nameR 0 (tx 6)) := by decide +kernel
theorem nt_7 : (5395523 : Int64) = jI (nameR 0 (tx 7)) := by decide +kernel
theorem nt_8 : (4411477 : Int64) = jI (nameR 0 (tx 8)) := by decide +kernel
theorem nt_9 : (5458768 : Int64) = jI (nameR 0 (tx 9)) := by decide +kernel
theorem nt_10 : (5462595 : Int64) = jI (nameR 0 (tx 10)) := by decide +kernel
theorem nt_11 : (5459523 : Int64) = jI (nameR 0 (tx 11)) := by decide +kernel
theorem nt_12 : (5462610 : Int64) = jI (nameR 0 (tx 12)) := by decide +kernel
theorem nt_13 : (5459538 : Int64) = jI (nameR 0 (tx 13)) := by decide +kernel
theorem nt_14 : (5457242 : Int64) = jI (nameR 0 (tx 14)) := by decide +kernel
theorem nt_15 : (5456462 : Int64) = jI (nameR 0 (tx 15)) := by decide +kernel
theorem r_giv {σ : SS} {cs : List Nat} {post : Int32 → SS → Prop} (h : isN cs) (hp : post (nI (givN cs)) σ) : f_R_fixed post σ (jI (nameR 0 cs)) := by
  have N : ∀ j, 5 ≤ j → j < 50 → isN (tx j) := tx_N
  unfold givN at hp
  simp only [f_R_fixed]
  refine r_among h (N 5 (by omega) (by omega)) (N 6 (by omega) (by omega)) (N 7 (by omega) (by omega)) nt_5 nt_6 nt_7 (fun z => ?_) (fun z0 z => ?_) (fun z0 z1 z => ?_) (fun z0 z1 z2 => ?_)
  · rw [if_pos z] at hp; simp (disch := omega) only [nm, q_lit, q_add, q_sub, q_subN, q_n1, q_mul, q_div, q_nm, q_and, q_or, q_xor, q_shr, q_shl, q_cl, q_a1, q_a3, q_a7, q_a31, q_a63, q_a255, q_a15, q_a16, q_a17, q_a2, q_a4, q_a8, q_a1024, q_a65536, Nat.reduceMod, Nat.reducePow, Nat.reduceDiv, Nat.reduceMul, Nat.reduceAdd, Nat.reduceSub, Nat.reduceEqDiff, q_ltT, q_ltF, q_leT, q_leF, q_eqT, q_eqF, q_inT, q_bz0, q_bz1, b_T, b_F, true_and, and_true, if_true, if_false]; exact hp
  · rw [if_neg z0, if_pos z] at hp; simp (disch := omega) only [nm, q_lit, q_add, q_sub, q_subN, q_n1, q_mul, q_div, q_nm, q_and, q_or, q_xor, q_shr, q_shl, q_cl, q_a1, q_a3, q_a7, q_a31, q_a63, q_a255, q_a15, q_a16, q_a17, q_a2, q_a4, q_a8, q_a1024, q_a65536, Nat.reduceMod, Nat.reducePow, Nat.reduceDiv, Nat.reduceMul, Nat.reduceAdd, Nat.reduceSub, Nat.reduceEqDiff, q_ltT, q_ltF, q_leT, q_leF, q_eqT, q_eqF, q_inT, q_bz0, q_bz1, b_T, b_F, true_and, and_true, if_true, if_false]; exact hp
  · rw [if_neg z0, if_neg z1, if_pos z] at hp; simp (disch := omega) only [nm, q_lit, q_add, q_sub, q_subN, q_n1, q_mul, q_div, q_nm, q_and, q_or, q_xor, q_shr, q_shl, q_cl, q_a1, q_a3, q_a7, q_a31, q_a63, q_a255, q_a15, q_a16, q_a17, q_a2, q_a4, q_a8, q_a1024, q_a65536, Nat.reduceMod, Nat.reducePow, Nat.reduceDiv, Nat.reduceMul, Nat.reduceAdd, Nat.reduceSub, Nat.reduceEqDiff, q_ltT, q_ltF, q_leT, q_leF, q_eqT, q_eqF, q_inT, q_bz0, q_bz1, b_T, b_F, true_and, and_true, if_true, if_false]; exact hp
  rw [if_neg z0, if_neg z1, if_neg z2] at hp
  rw [nt_8]
  refine b_c (fun z => ?_) (fun z3 => ?_)
  · rw [q_lit, j_c0, eqR h (N 8 (by omega) (by omega))] at z
    rw [if_pos z] at hp; simp (disch := omega) only [nm, q_lit, q_add, q_sub, q_subN, q_n1, q_mul, q_div, q_nm, q_and, q_or, q_xor, q_shr, q_shl, q_cl, q_a1, q_a3, q_a7, q_a31, q_a63, q_a255, q_a15, q_a16, q_a17, q_a2, q_a4, q_a8, q_a1024, q_a65536, Nat.reduceMod, Nat.reducePow, Nat.reduceDiv, Nat.reduceMul, Nat.reduceAdd, Nat.reduceSub, Nat.reduceEqDiff, q_ltT, q_ltF, q_leT, q_leF, q_eqT, q_eqF, q_inT, q_bz0, q_bz1, b_T, b_F, true_and, and_true, if_true, if_false]; exact hp
  rw [q_lit, j_c0, eqR h (N 8 (by omega) (by omega))] at z3
  rw [if_neg z3] at hp
  refine b_t (by decide) ?_
  refine r_among h (N 9 (by omega) (by omega)) (N 10 (by omega) (by omega)) (N 11 (by omega) (by omega)) nt_9 nt_10 nt_11 (fun z => ?_) (fun z0 z => ?_) (fun z0 z1 z => ?_) (fun z0 z1 z2 => ?_)
  · rw [if_pos z] at hp; simp (disch := omega) only [nm, q_lit, q_add, q_sub, q_subN, q_n1, q_mul, q_div, q_nm, q_and, q_or, q_xor, q_shr, q_shl, q_cl, q_a1, q_a3, q_a7, q_a31, q_a63, q_a255, q_a15, q_a16, q_a17, q_a2, q_a4, q_a8, q_a1024, q_a65536, Nat.reduceMod, Nat.reducePow, Nat.reduceDiv, Nat.reduceMul, Nat.reduceAdd, Nat.reduceSub, Nat.reduceEqDiff, q_ltT, q_ltF, q_leT, q_leF, q_eqT, q_eqF, q_inT, q_bz0, q_bz1, b_T, b_F, true_and, and_true, if_true, if_false]; exact hp
  · rw [if_neg z0, if_pos z] at hp; simp (disch := omega) only [nm, q_lit, q_add, q_sub, q_subN, q_n1, q_mul, q_div, q_nm, q_and, q_or, q_xor, q_shr, q_shl, q_cl, q_a1, q_a3, q_a7, q_a31, q_a63, q_a255, q_a15, q_a16, q_a17, q_a2, q_a4, q_a8, q_a1024, q_a65536, Nat.reduceMod, Nat.reducePow, Nat.reduceDiv, Nat.reduceMul, Nat.reduceAdd, Nat.reduceSub, Nat.reduceEqDiff, q_ltT, q_ltF, q_leT, q_leF, q_eqT, q_eqF, q_inT, q_bz0, q_bz1, b_T, b_F, true_and, and_true, if_true, if_false]; exact hp
  · rw [if_neg z0, if_neg z1, if_pos z] at hp; simp (disch := omega) only [nm, q_lit, q_add, q_sub, q_subN, q_n1, q_mul, q_div, q_nm, q_and, q_or, q_xor, q_shr, q_shl, q_cl, q_a1, q_a3, q_a7, q_a31, q_a63, q_a255, q_a15, q_a16, q_a17, q_a2, q_a4, q_a8, q_a1024, q_a65536, Nat.reduceMod, Nat.reducePow, Nat.reduceDiv, Nat.reduceMul, Nat.reduceAdd, Nat.reduceSub, Nat.reduceEqDiff, q_ltT, q_ltF, q_leT, q_leF, q_eqT, q_eqF, q_inT, q_bz0, q_bz1, b_T, b_F, true_and, and_true, if_true, if_false]; exact hp
  rw [if_neg z0, if_neg z1, if_neg z2] at hp
  rw [nt_12]
  refine b_c (fun z => ?_) (fun z3 => ?_)
  · rw [q_lit, j_c0, eqR h (N 12 (by omega) (by omega))] at z
    rw [if_pos z] at hp; simp (disch := omega) only [nm, q_lit, q_add, q_sub, q_subN, q_n1, q_mul, q_div, q_nm, q_and, q_or, q_xor, q_shr, q_shl, q_cl, q_a1, q_a3, q_a7, q_a31, q_a63, q_a255, q_a15, q_a16, q_a17, q_a2, q_a4, q_a8, q_a1024, q_a65536, Nat.reduceMod, Nat.reducePow, Nat.reduceDiv, Nat.reduceMul, Nat.reduceAdd, Nat.reduceSub, Nat.reduceEqDiff, q_ltT, q_ltF, q_leT, q_leF, q_eqT, q_eqF, q_inT, q_bz0, q_bz1, b_T, b_F, true_and, and_true, if_true, if_false]; exact hp
  rw [q_lit, j_c0, eqR h (N 12 (by omega) (by omega))] at z3
  rw [if_neg z3] at hp
  refine b_t (by decide) ?_
  refine r_among h (N 13 (by omega) (by omega)) (N 14 (by omega) (by omega)) (N 15 (by omega) (by omega)) nt_13 nt_14 nt_15 (fun z => ?_) (fun z0 z => ?_) (fun z0 z1 z => ?_) (fun z0 z1 z2 => ?_)
  · rw [if_pos z] at hp; simp (disch := omega) only [nm, q_lit, q_add, q_sub, q_subN, q_n1, q_mul, q_div, q_nm, q_and, q_or, q_xor, q_shr, q_shl, q_cl, q_a1, q_a3, q_a7, q_a31, q_a63, q_a255, q_a15, q_a16, q_a17, q_a2, q_a4, q_a8, q_a1024, q_a65536, Nat.reduceMod, Nat.reducePow, Nat.reduceDiv, Nat.reduceMul, Nat.reduceAdd, Nat.reduceSub, Nat.reduceEqDiff, q_ltT, q_ltF, q_leT, q_leF, q_eqT, q_eqF, q_inT, q_bz0, q_bz1, b_T, b_F, true_and, and_true, if_true, if_false]; exact hp
  · rw [if_neg z0, if_pos z] at hp; simp (disch := omega) only [nm, q_lit, q_add, q_sub, q_subN, q_n1, q_mul, q_div, q_nm, q_and, q_or, q_xor, q_shr, q_shl, q_cl, q_a1, q_a3, q_a7, q_a31, q_a63, q_a255, q_a15, q_a16, q_a17, q_a2, q_a4, q_a8, q_a1024, q_a65536, Nat.reduceMod, Nat.reducePow, Nat.reduceDiv, Nat.reduceMul, Nat.reduceAdd, Nat.reduceSub, Nat.reduceEqDiff, q_ltT, q_ltF, q_leT, q_leF, q_eqT, q_eqF, q_inT, q_bz0, q_bz1, b_T, b_F, true_and, and_true, if_true, if_false]; exact hp
  · rw [if_neg z0, if_neg z1, if_pos z] at hp; simp (disch := omega) only [nm, q_lit, q_add, q_sub, q_subN, q_n1, q_mul, q_div, q_nm, q_and, q_or, q_xor, q_shr, q_shl, q_cl, q_a1, q_a3, q_a7, q_a31, q_a63, q_a255, q_a15, q_a16, q_a17, q_a2, q_a4, q_a8, q_a1024, q_a65536, Nat.reduceMod, Nat.reducePow, Nat.reduceDiv, Nat.reduceMul, Nat.reduceAdd, Nat.reduceSub, Nat.reduceEqDiff, q_ltT, q_ltF, q_leT, q_leF, q_eqT, q_eqF, q_inT, q_bz0, q_bz1, b_T, b_F, true_and, and_true, if_true, if_false]; exact hp
  rw [if_neg z0, if_neg z1, if_neg z2] at hp
  have hz : ¬ lg_cmp (jI (nameR 0 cs)) 0 = 0 := by
    have b1 := isN_48 h
    have b2 := (isN_lo h).1
    have b3 : 0 < 256 ^ (cs.length - 1) := Nat.pos_of_ne_zero (by simp)
    rw [q_lit, j_c0, j_lit, j_eq (by omega) (by omega)]
    omega
  refine b_f hz (b_t (by decide) ?_)
  rw [q_lit, q_n1]; exact hp
