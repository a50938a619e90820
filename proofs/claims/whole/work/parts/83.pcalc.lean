/-! the pure side: arithmetic -/
theorem or_add {b : Nat} (i a : Nat) (h : b < 2 ^ i) : a * 2 ^ i ||| b = a * 2 ^ i + b := by
  rw [Nat.mul_comm, ← Nat.two_pow_add_eq_or_of_lt h]
theorem or_addR {b : Nat} (i a : Nat) (h : b < 2 ^ i) : b ||| a * 2 ^ i = b + a * 2 ^ i := by
  rw [Nat.or_comm, or_add i a h, Nat.add_comm]
theorem xor_not {s : Nat} (h : s < 65536) : s ^^^ 65535 = 65535 - s := by
  apply Nat.eq_of_testBit_eq
  intro i
  have e : 65535 - s = 2 ^ 16 - (s + 1) := by omega
  rw [e, Nat.testBit_two_pow_sub_succ h, Nat.testBit_xor, show (65535 : Nat) = 2 ^ 16 - 1 from rfl, Nat.testBit_two_pow_sub_one]
  by_cases c : i < 16
  · simp [c]
  · have : s.testBit i = false := Nat.testBit_lt_two_pow (Nat.lt_of_lt_of_le (show s < 2 ^ 16 from h) (Nat.pow_le_pow_right (show 0 < 2 by decide) (show 16 ≤ i by omega)))
    simp [c, this]
def cSum (f s a : Nat) : Nat := if f = 0 then 65535 - s else if f = 1 then 65535 - s + 1 else if f = 2 then s else if f = 3 then s + 1 else if f = 4 then a + (65535 - s) else if f = 5 then a + (65535 - s) + 1 else if f = 6 then a + s else a &&& s
theorem cSum_lt {f s a : Nat} (hs : s < 65536) (ha : a < 65536) : cSum f s a < 131072 := by
  have h : a &&& s ≤ s := Nat.and_le_right
  unfold cSum
  repeat' split
  all_goals omega
def cBase (b c : Nat) : Nat := if b = 0 then c else if b = 1 then 0 else if b = 2 then 1 else 1 - c
theorem cBase_le {b c : Nat} (h : c ≤ 1) : cBase b c ≤ 1 := by
  unfold cBase
  repeat' split
  all_goals omega
def cCar (t v : Nat) : Nat := if v < 65536 then t else 1 - t
theorem cCar_le {t v : Nat} (h : t ≤ 1) : cCar t v ≤ 1 := by
  unfold cCar; split <;> omega
def cShC (k t lo : Nat) : Nat := if k = 1 then (2 * lo + t) / 65536 else if k = 2 then lo % 2 else t
def cShR (k t lo : Nat) : Nat := if k = 1 then (2 * lo + t) % 65536 else if k = 2 then lo / 2 + t * 32768 else if k = 3 then lo % 256 * 256 + lo / 256 else lo
theorem cShC_le {k t lo : Nat} (ht : t ≤ 1) (hl : lo < 65536) : cShC k t lo ≤ 1 := by
  unfold cShC; repeat' split
  all_goals omega
theorem cShR_lt {k t lo : Nat} (ht : t ≤ 1) (hl : lo < 65536) : cShR k t lo < 65536 := by
  unfold cShR; repeat' split
  all_goals omega
def cSkp (k c r : Nat) : Nat := if k = 0 then 0 else if k = 1 then 1 else if k = 2 then (if c = 0 then 1 else 0) else if k = 3 then (if c = 0 then 0 else 1) else if k = 4 then (if r = 0 then 1 else 0) else if k = 5 then (if r = 0 then 0 else 1) else if k = 6 then (if c = 0 then 1 else if r = 0 then 1 else 0) else (if c = 0 then 0 else if r = 0 then 0 else 1)
theorem cSkp_le (k c r : Nat) : cSkp k c r ≤ 1 := by
  unfold cSkp; repeat' split
  all_goals omega
theorem c_sumOf {σ : SS} {f s a : Nat} {post : Int32 → SS → Prop} (hf : f < 8) (hs : s < 65536) (ha : a < 65536) (h : post (nI (cSum f s a)) σ) : f_M_sumOf post σ (nI f) (nI s) (nI a) := by
  have hq : f = 0 ∨ f = 1 ∨ f = 2 ∨ f = 3 ∨ f = 4 ∨ f = 5 ∨ f = 6 ∨ f = 7 := by omega
  simp only [f_M_sumOf]
  unfold cSum at h
  rcases hq with c | c | c | c | c | c | c | c <;> subst c <;> simp (disch := omega) only [nm, q_lit, q_add, q_sub, q_subN, q_n1, q_mul, q_div, q_nm, q_and, q_or, q_xor, q_shr, q_shl, q_cl, q_a1, q_a3, q_a7, q_a31, q_a63, q_a255, q_a15, q_a16, q_a17, q_a2, q_a4, q_a8, q_a1024, q_a65536, Nat.reduceMod, Nat.reducePow, Nat.reduceDiv, Nat.reduceMul, Nat.reduceAdd, Nat.reduceSub, Nat.reduceEqDiff, q_ltT, q_ltF, q_leT, q_leF, q_eqT, q_eqF, q_inT, q_bz0, q_bz1, b_T, b_F, true_and, and_true, if_true, if_false, xor_not hs] at h ⊢ <;> exact h
theorem c_baseOf {σ : SS} {b c : Nat} {post : Int32 → SS → Prop} (hb : b < 4) (hc : c ≤ 1) (hv : σ.1 0 = nI c) (h : post (nI (cBase b c)) σ) : f_M_baseOf post σ (nI b) := by
  have hq : b = 0 ∨ b = 1 ∨ b = 2 ∨ b = 3 := by omega
  simp only [f_M_baseOf]
  unfold cBase at h
  rcases hq with c | c | c | c <;> subst c <;> simp (disch := omega) only [nm, q_lit, q_add, q_sub, q_subN, q_n1, q_mul, q_div, q_nm, q_and, q_or, q_xor, q_shr, q_shl, q_cl, q_a1, q_a3, q_a7, q_a31, q_a63, q_a255, q_a15, q_a16, q_a17, q_a2, q_a4, q_a8, q_a1024, q_a65536, Nat.reduceMod, Nat.reducePow, Nat.reduceDiv, Nat.reduceMul, Nat.reduceAdd, Nat.reduceSub, Nat.reduceEqDiff, q_ltT, q_ltF, q_leT, q_leF, q_eqT, q_eqF, q_inT, q_bz0, q_bz1, b_T, b_F, true_and, and_true, if_true, if_false, hv] at h ⊢ <;> exact h
theorem c_shift {σ : SS} {k t lo : Nat} {post : Int32 → SS → Prop} (hk : k < 4) (ht : t ≤ 1) (hl : lo < 65536) (h : post (nI (cShC k t lo * 65536 + cShR k t lo)) σ) : f_M_shift post σ (nI k) (nI (t * 65536 + lo)) := by
  have hq : k = 0 ∨ k = 1 ∨ k = 2 ∨ k = 3 := by omega
  simp only [f_M_shift]
  unfold cShC cShR at h
  rcases hq with c | c | c | c <;> subst c
  · simp (disch := omega) only [nm, q_lit, q_add, q_sub, q_subN, q_n1, q_mul, q_div, q_nm, q_and, q_or, q_xor, q_shr, q_shl, q_cl, q_a1, q_a3, q_a7, q_a31, q_a63, q_a255, q_a15, q_a16, q_a17, q_a2, q_a4, q_a8, q_a1024, q_a65536, Nat.reduceMod, Nat.reducePow, Nat.reduceDiv, Nat.reduceMul, Nat.reduceAdd, Nat.reduceSub, Nat.reduceEqDiff, q_ltT, q_ltF, q_leT, q_leF, q_eqT, q_eqF, q_inT, q_bz0, q_bz1, b_T, b_F, true_and, and_true, if_true, if_false] at h ⊢; exact h
  · simp (disch := omega) only [nm, q_lit, q_add, q_sub, q_subN, q_n1, q_mul, q_div, q_nm, q_and, q_or, q_xor, q_shr, q_shl, q_cl, q_a1, q_a3, q_a7, q_a31, q_a63, q_a255, q_a15, q_a16, q_a17, q_a2, q_a4, q_a8, q_a1024, q_a65536, Nat.reduceMod, Nat.reducePow, Nat.reduceDiv, Nat.reduceMul, Nat.reduceAdd, Nat.reduceSub, Nat.reduceEqDiff, q_ltT, q_ltF, q_leT, q_leF, q_eqT, q_eqF, q_inT, q_bz0, q_bz1, b_T, b_F, true_and, and_true, if_true, if_false] at h ⊢
    have e : ((t * 65536 + lo) * 2 ||| (t * 65536 + lo) / 65536) % 131072 = (2 * lo + t) / 65536 * 65536 + (2 * lo + t) % 65536 := by
      have := or_add (b := (t * 65536 + lo) / 65536) 1 (t * 65536 + lo) (by omega)
      rw [show (2 : Nat) ^ 1 = 2 from rfl] at this
      rw [this]
      rw [show (t * 65536 + lo) / 65536 = t by omega, show (t * 65536 + lo) * 2 + t = (2 * lo + t) + 131072 * t by omega, Nat.add_mul_mod_self_left, Nat.mod_eq_of_lt (by omega)]
      omega
    rw [e]; exact h
  · simp (disch := omega) only [nm, q_lit, q_add, q_sub, q_subN, q_n1, q_mul, q_div, q_nm, q_and, q_or, q_xor, q_shr, q_shl, q_cl, q_a1, q_a3, q_a7, q_a31, q_a63, q_a255, q_a15, q_a16, q_a17, q_a2, q_a4, q_a8, q_a1024, q_a65536, Nat.reduceMod, Nat.reducePow, Nat.reduceDiv, Nat.reduceMul, Nat.reduceAdd, Nat.reduceSub, Nat.reduceEqDiff, q_ltT, q_ltF, q_leT, q_leF, q_eqT, q_eqF, q_inT, q_bz0, q_bz1, b_T, b_F, true_and, and_true, if_true, if_false] at h ⊢
    have e : (t * 65536 + lo) / 2 ||| (t * 65536 + lo) % 2 * 65536 = lo % 2 * 65536 + (lo / 2 + t * 32768) := by
      have := or_addR (b := (t * 65536 + lo) / 2) 16 ((t * 65536 + lo) % 2) (by omega)
      rw [show (2 : Nat) ^ 16 = 65536 from rfl] at this
      rw [this]
      omega
    rw [e]; exact h
  · simp (disch := omega) only [nm, q_lit, q_add, q_sub, q_subN, q_n1, q_mul, q_div, q_nm, q_and, q_or, q_xor, q_shr, q_shl, q_cl, q_a1, q_a3, q_a7, q_a31, q_a63, q_a255, q_a15, q_a16, q_a17, q_a2, q_a4, q_a8, q_a1024, q_a65536, Nat.reduceMod, Nat.reducePow, Nat.reduceDiv, Nat.reduceMul, Nat.reduceAdd, Nat.reduceSub, Nat.reduceEqDiff, q_ltT, q_ltF, q_leT, q_leF, q_eqT, q_eqF, q_inT, q_bz0, q_bz1, b_T, b_F, true_and, and_true, if_true, if_false] at h ⊢
    have e : (t * 65536 + lo) / 65536 % 2 * 65536 ||| (t * 65536 + lo) % 256 * 256 ||| (t * 65536 + lo) / 256 % 256 = t * 65536 + (lo % 256 * 256 + lo / 256) := by
      have h1 := or_add (b := (t * 65536 + lo) % 256 * 256) 16 ((t * 65536 + lo) / 65536 % 2) (by omega)
      rw [show (2 : Nat) ^ 16 = 65536 from rfl] at h1
      rw [h1]
      have h2 := or_add (b := (t * 65536 + lo) / 256 % 256) 8 ((t * 65536 + lo) / 65536 % 2 * 256 + (t * 65536 + lo) % 256) (by omega)
      rw [show (2 : Nat) ^ 8 = 256 from rfl, Nat.add_mul, Nat.mul_assoc] at h2
      rw [h2]
      omega
    rw [e]; exact h
theorem c_skips {σ : SS} {k c r : Nat} {post : Int32 → SS → Prop} (hk : k < 8) (hc : c < 2147483648) (hr : r < 2147483648) (h : post (nI (cSkp k c r)) σ) : f_M_skips post σ (nI k) (nI c) (nI r) := by
  have hq : k = 0 ∨ k = 1 ∨ k = 2 ∨ k = 3 ∨ k = 4 ∨ k = 5 ∨ k = 6 ∨ k = 7 := by omega
  simp only [f_M_skips]
  unfold cSkp at h
  by_cases h1 : c = 0 <;> by_cases h2 : r = 0 <;> rcases hq with z | z | z | z | z | z | z | z <;> subst z <;> simp (disch := omega) only [nm, q_lit, q_add, q_sub, q_subN, q_n1, q_mul, q_div, q_nm, q_and, q_or, q_xor, q_shr, q_shl, q_cl, q_a1, q_a3, q_a7, q_a31, q_a63, q_a255, q_a15, q_a16, q_a17, q_a2, q_a4, q_a8, q_a1024, q_a65536, Nat.reduceMod, Nat.reducePow, Nat.reduceDiv, Nat.reduceMul, Nat.reduceAdd, Nat.reduceSub, Nat.reduceEqDiff, q_ltT, q_ltF, q_leT, q_leF, q_eqT, q_eqF, q_inT, q_bz0, q_bz1, b_T, b_F, true_and, and_true, if_true, if_false, h1, h2] at h ⊢ <;> exact h
theorem xor_b {t v : Nat} (ht : t ≤ 1) (hv : v < 131072) : t ^^^ v / 65536 = cCar t v := by
  have hq : (t = 0 ∨ t = 1) ∧ (v / 65536 = 0 ∨ v / 65536 = 1) := by omega
  unfold cCar
  obtain ⟨a | a, b | b⟩ := hq <;> rw [a, b]
  · rw [if_pos (by omega)]; rfl
  · rw [if_neg (by omega)]; rfl
  · rw [if_pos (by omega)]; rfl
  · rw [if_neg (by omega)]; rfl
/-- an arithmetic instruction: its carry, its word -/
def cT (w s a c : Nat) : Nat := cCar (cBase (w / 16 % 4) c) (cSum (w / 256 % 8) s a)
def cC (w s a c : Nat) : Nat := cShC (w / 64 % 4) (cT w s a c) (cSum (w / 256 % 8) s a % 65536)
def cR (w s a c : Nat) : Nat := cShR (w / 64 % 4) (cT w s a c) (cSum (w / 256 % 8) s a % 65536)
theorem cT_le {w s a c : Nat} (hc : c ≤ 1) : cT w s a c ≤ 1 := cCar_le (cBase_le hc)
theorem cC_le {w s a c : Nat} (hc : c ≤ 1) : cC w s a c ≤ 1 := cShC_le (cT_le hc) (by omega)
theorem cR_lt {w s a c : Nat} (hc : c ≤ 1) : cR w s a c < 65536 := cShR_lt (cT_le hc) (by omega)
theorem c_calculate {σ : SS} {w s a c : Nat} {post : Int32 → SS → Prop} (hw : w < 65536) (hs : s < 65536) (ha : a < 65536) (hc : c ≤ 1) (vs : σ.2.1 3 (w / 8192 % 4) = nI s) (va : σ.2.1 3 (w / 2048 % 4) = nI a) (vc : σ.1 0 = nI c)
    (h1 : w / 8 % 2 = 0 → post (nI (cSkp (w % 8) (cC w s a c) (cR w s a c))) (sI (sA σ 3 (w / 2048 % 4) (nI (cR w s a c))) 0 (nI (cC w s a c))))
    (h2 : w / 8 % 2 = 1 → post (nI (cSkp (w % 8) (cC w s a c) (cR w s a c))) σ) : f_M_calculate post σ (nI w) := by
  have hS := cSum_lt (f := w / 256 % 8) hs ha
  have hT := cT_le (w := w) (s := s) (a := a) hc
  have hC := cC_le (w := w) (s := s) (a := a) hc
  have hR := cR_lt (w := w) (s := s) (a := a) hc
  simp only [f_M_calculate]
  simp (disch := omega) only [nm, q_lit, q_add, q_sub, q_subN, q_n1, q_mul, q_div, q_nm, q_and, q_or, q_xor, q_shr, q_shl, q_cl, q_a1, q_a3, q_a7, q_a31, q_a63, q_a255, q_a15, q_a16, q_a17, q_a2, q_a4, q_a8, q_a1024, q_a65536, Nat.reduceMod, Nat.reducePow, Nat.reduceDiv, Nat.reduceMul, Nat.reduceAdd, Nat.reduceSub, Nat.reduceEqDiff, q_ltT, q_ltF, q_leT, q_leF, q_eqT, q_eqF, q_inT, q_bz0, q_bz1, b_T, b_F, true_and, and_true, if_true, if_false, vs, va]
  refine c_sumOf (by omega) hs ha ?_
  refine c_baseOf (by omega) hc vc ?_
  simp (disch := omega) only [nm, q_lit, q_add, q_sub, q_subN, q_n1, q_mul, q_div, q_nm, q_and, q_or, q_xor, q_shr, q_shl, q_cl, q_a1, q_a3, q_a7, q_a31, q_a63, q_a255, q_a15, q_a16, q_a17, q_a2, q_a4, q_a8, q_a1024, q_a65536, Nat.reduceMod, Nat.reducePow, Nat.reduceDiv, Nat.reduceMul, Nat.reduceAdd, Nat.reduceSub, Nat.reduceEqDiff, q_ltT, q_ltF, q_leT, q_leF, q_eqT, q_eqF, q_inT, q_bz0, q_bz1, b_T, b_F, true_and, and_true, if_true, if_false]
  rw [xor_b (cBase_le hc) hS]
  have e := or_add (b := cSum (w / 256 % 8) s a % 65536) 16 (cT w s a c) (by omega)
  rw [show (2 : Nat) ^ 16 = 65536 from rfl] at e
  unfold cT at e hT
  rw [e]
  refine c_shift (by omega) hT (by omega) ?_
  have e1 : (cC w s a c * 65536 + cR w s a c) / 65536 = cC w s a c := by omega
  have e2 : (cC w s a c * 65536 + cR w s a c) % 65536 = cR w s a c := by omega
  have e3 : cShC (w / 64 % 4) (cCar (cBase (w / 16 % 4) c) (cSum (w / 256 % 8) s a)) (cSum (w / 256 % 8) s a % 65536) = cC w s a c := rfl
  have e4 : cShR (w / 64 % 4) (cCar (cBase (w / 16 % 4) c) (cSum (w / 256 % 8) s a)) (cSum (w / 256 % 8) s a % 65536) = cR w s a c := rfl
  rw [e3, e4]
  simp only [f_M_calculate_112]
  rcases Nat.mod_two_eq_zero_or_one (w / 8) with z | z
  · simp (disch := omega) only [nm, q_lit, q_add, q_sub, q_subN, q_n1, q_mul, q_div, q_nm, q_and, q_or, q_xor, q_shr, q_shl, q_cl, q_a1, q_a3, q_a7, q_a31, q_a63, q_a255, q_a15, q_a16, q_a17, q_a2, q_a4, q_a8, q_a1024, q_a65536, Nat.reduceMod, Nat.reducePow, Nat.reduceDiv, Nat.reduceMul, Nat.reduceAdd, Nat.reduceSub, Nat.reduceEqDiff, q_ltT, q_ltF, q_leT, q_leF, q_eqT, q_eqF, q_inT, q_bz0, q_bz1, b_T, b_F, true_and, and_true, if_true, if_false, e1, e2, z]
    exact c_skips (by omega) (by omega) (by omega) (h1 z)
  · simp (disch := omega) only [nm, q_lit, q_add, q_sub, q_subN, q_n1, q_mul, q_div, q_nm, q_and, q_or, q_xor, q_shr, q_shl, q_cl, q_a1, q_a3, q_a7, q_a31, q_a63, q_a255, q_a15, q_a16, q_a17, q_a2, q_a4, q_a8, q_a1024, q_a65536, Nat.reduceMod, Nat.reducePow, Nat.reduceDiv, Nat.reduceMul, Nat.reduceAdd, Nat.reduceSub, Nat.reduceEqDiff, q_ltT, q_ltF, q_leT, q_leF, q_eqT, q_eqF, q_inT, q_bz0, q_bz1, b_T, b_F, true_and, and_true, if_true, if_false, e1, e2, z]
    exact c_skips (by omega) (by omega) (by omega) (h2 z)
/-- the reference's -/
theorem r_skip {σ : SS} {w c r : Nat} {post : Int32 → SS → Prop} (hw : w < 65536) (hc : c < 2147483648) (hr : r < 2147483648) (h : post (nI (cSkp (w % 8) c r)) σ) : f_R_reckons_349 post σ (nI w) (nI c) (nI r) := by
  have hq : w % 8 = 0 ∨ w % 8 = 1 ∨ w % 8 = 2 ∨ w % 8 = 3 ∨ w % 8 = 4 ∨ w % 8 = 5 ∨ w % 8 = 6 ∨ w % 8 = 7 := by omega
  simp only [f_R_reckons_349, f_R_reckons_430, f_R_reckons_444]
  unfold cSkp at h
  by_cases h1 : c = 0 <;> by_cases h2 : r = 0 <;> rcases hq with z | z | z | z | z | z | z | z <;> simp (disch := omega) only [nm, q_lit, q_add, q_sub, q_subN, q_n1, q_mul, q_div, q_nm, q_and, q_or, q_xor, q_shr, q_shl, q_cl, q_a1, q_a3, q_a7, q_a31, q_a63, q_a255, q_a15, q_a16, q_a17, q_a2, q_a4, q_a8, q_a1024, q_a65536, Nat.reduceMod, Nat.reducePow, Nat.reduceDiv, Nat.reduceMul, Nat.reduceAdd, Nat.reduceSub, Nat.reduceEqDiff, q_ltT, q_ltF, q_leT, q_leF, q_eqT, q_eqF, q_inT, q_bz0, q_bz1, b_T, b_F, true_and, and_true, if_true, if_false, z, h1, h2] at h ⊢ <;> exact h
theorem r_reckons {σ : SS} {w s a c : Nat} {post : Int32 → SS → Prop} (hw : w < 65536) (hs : s < 65536) (ha : a < 65536) (hc : c ≤ 1) (vs : σ.2.1 2 (w / 8192 % 4) = nI s) (va : σ.2.1 2 (w / 2048 % 4) = nI a) (vc : σ.1 0 = nI c)
    (h1 : w / 8 % 2 = 0 → post (nI (cSkp (w % 8) (cC w s a c) (cR w s a c))) (sI (sA σ 2 (w / 2048 % 4) (nI (cR w s a c))) 0 (nI (cC w s a c))))
    (h2 : w / 8 % 2 = 1 → post (nI (cSkp (w % 8) (cC w s a c) (cR w s a c))) σ) : f_R_reckons post σ (nI w) := by
  have hS := cSum_lt (f := w / 256 % 8) hs ha
  have hT := cT_le (w := w) (s := s) (a := a) hc
  have hC := cC_le (w := w) (s := s) (a := a) hc
  have hR := cR_lt (w := w) (s := s) (a := a) hc
  have hB := cBase_le (b := w / 16 % 4) hc
  have k1 : f_R_reckons_320 post σ (nI w) (nI (cC w s a c)) (nI (cR w s a c)) := by
    simp only [f_R_reckons_320]
    rcases Nat.mod_two_eq_zero_or_one (w / 8) with z | z
    · simp (disch := omega) only [nm, q_lit, q_add, q_sub, q_subN, q_n1, q_mul, q_div, q_nm, q_and, q_or, q_xor, q_shr, q_shl, q_cl, q_a1, q_a3, q_a7, q_a31, q_a63, q_a255, q_a15, q_a16, q_a17, q_a2, q_a4, q_a8, q_a1024, q_a65536, Nat.reduceMod, Nat.reducePow, Nat.reduceDiv, Nat.reduceMul, Nat.reduceAdd, Nat.reduceSub, Nat.reduceEqDiff, q_ltT, q_ltF, q_leT, q_leF, q_eqT, q_eqF, q_inT, q_bz0, q_bz1, b_T, b_F, true_and, and_true, if_true, if_false, z]
      exact r_skip hw (by omega) (by omega) (h1 z)
    · simp (disch := omega) only [nm, q_lit, q_add, q_sub, q_subN, q_n1, q_mul, q_div, q_nm, q_and, q_or, q_xor, q_shr, q_shl, q_cl, q_a1, q_a3, q_a7, q_a31, q_a63, q_a255, q_a15, q_a16, q_a17, q_a2, q_a4, q_a8, q_a1024, q_a65536, Nat.reduceMod, Nat.reducePow, Nat.reduceDiv, Nat.reduceMul, Nat.reduceAdd, Nat.reduceSub, Nat.reduceEqDiff, q_ltT, q_ltF, q_leT, q_leF, q_eqT, q_eqF, q_inT, q_bz0, q_bz1, b_T, b_F, true_and, and_true, if_true, if_false, z]
      exact r_skip hw (by omega) (by omega) (h2 z)
  have k2 : f_R_reckons_215 post σ (nI w) (nI (cSum (w / 256 % 8) s a)) (nI (cT w s a c)) := by
    unfold cC cR cShC cShR at k1
    have hq : w / 64 % 4 = 0 ∨ w / 64 % 4 = 1 ∨ w / 64 % 4 = 2 ∨ w / 64 % 4 = 3 := by omega
    simp only [f_R_reckons_215]
    rcases hq with z | z | z | z <;> simp (disch := omega) only [nm, q_lit, q_add, q_sub, q_subN, q_n1, q_mul, q_div, q_nm, q_and, q_or, q_xor, q_shr, q_shl, q_cl, q_a1, q_a3, q_a7, q_a31, q_a63, q_a255, q_a15, q_a16, q_a17, q_a2, q_a4, q_a8, q_a1024, q_a65536, Nat.reduceMod, Nat.reducePow, Nat.reduceDiv, Nat.reduceMul, Nat.reduceAdd, Nat.reduceSub, Nat.reduceEqDiff, q_ltT, q_ltF, q_leT, q_leF, q_eqT, q_eqF, q_inT, q_bz0, q_bz1, b_T, b_F, true_and, and_true, if_true, if_false, z] at k1 ⊢ <;> exact k1
  have k3 : f_R_reckons_199 post σ (nI w) (nI (cBase (w / 16 % 4) c)) (nI (cSum (w / 256 % 8) s a)) := by
    unfold cT cCar at k2
    simp only [f_R_reckons_199]
    by_cases z : cSum (w / 256 % 8) s a < 65536
    · simp (disch := omega) only [nm, q_lit, q_add, q_sub, q_subN, q_n1, q_mul, q_div, q_nm, q_and, q_or, q_xor, q_shr, q_shl, q_cl, q_a1, q_a3, q_a7, q_a31, q_a63, q_a255, q_a15, q_a16, q_a17, q_a2, q_a4, q_a8, q_a1024, q_a65536, Nat.reduceMod, Nat.reducePow, Nat.reduceDiv, Nat.reduceMul, Nat.reduceAdd, Nat.reduceSub, Nat.reduceEqDiff, q_ltT, q_ltF, q_leT, q_leF, q_eqT, q_eqF, q_inT, q_bz0, q_bz1, b_T, b_F, true_and, and_true, if_true, if_false, z] at k2 ⊢; exact k2
    · simp (disch := omega) only [nm, q_lit, q_add, q_sub, q_subN, q_n1, q_mul, q_div, q_nm, q_and, q_or, q_xor, q_shr, q_shl, q_cl, q_a1, q_a3, q_a7, q_a31, q_a63, q_a255, q_a15, q_a16, q_a17, q_a2, q_a4, q_a8, q_a1024, q_a65536, Nat.reduceMod, Nat.reducePow, Nat.reduceDiv, Nat.reduceMul, Nat.reduceAdd, Nat.reduceSub, Nat.reduceEqDiff, q_ltT, q_ltF, q_leT, q_leF, q_eqT, q_eqF, q_inT, q_bz0, q_bz1, b_T, b_F, true_and, and_true, if_true, if_false, z] at k2 ⊢; exact k2
  have k4 : f_R_reckons_76 post σ (nI w) (nI s) (nI a) (nI (cBase (w / 16 % 4) c)) := by
    have hq : w / 256 % 8 = 0 ∨ w / 256 % 8 = 1 ∨ w / 256 % 8 = 2 ∨ w / 256 % 8 = 3 ∨ w / 256 % 8 = 4 ∨ w / 256 % 8 = 5 ∨ w / 256 % 8 = 6 ∨ w / 256 % 8 = 7 := by omega
    unfold cSum at k3
    simp only [f_R_reckons_76]
    rcases hq with z | z | z | z | z | z | z | z <;> simp (disch := omega) only [nm, q_lit, q_add, q_sub, q_subN, q_n1, q_mul, q_div, q_nm, q_and, q_or, q_xor, q_shr, q_shl, q_cl, q_a1, q_a3, q_a7, q_a31, q_a63, q_a255, q_a15, q_a16, q_a17, q_a2, q_a4, q_a8, q_a1024, q_a65536, Nat.reduceMod, Nat.reducePow, Nat.reduceDiv, Nat.reduceMul, Nat.reduceAdd, Nat.reduceSub, Nat.reduceEqDiff, q_ltT, q_ltF, q_leT, q_leF, q_eqT, q_eqF, q_inT, q_bz0, q_bz1, b_T, b_F, true_and, and_true, if_true, if_false, z] at k3 ⊢ <;> exact k3
  have hq : w / 16 % 4 = 0 ∨ w / 16 % 4 = 1 ∨ w / 16 % 4 = 2 ∨ w / 16 % 4 = 3 := by omega
  unfold cBase at k4
  simp only [f_R_reckons]
  rcases hq with z | z | z | z <;> simp (disch := omega) only [nm, q_lit, q_add, q_sub, q_subN, q_n1, q_mul, q_div, q_nm, q_and, q_or, q_xor, q_shr, q_shl, q_cl, q_a1, q_a3, q_a7, q_a31, q_a63, q_a255, q_a15, q_a16, q_a17, q_a2, q_a4, q_a8, q_a1024, q_a65536, Nat.reduceMod, Nat.reducePow, Nat.reduceDiv, Nat.reduceMul, Nat.reduceAdd, Nat.reduceSub, Nat.reduceEqDiff, q_ltT, q_ltF, q_leT, q_leF, q_eqT, q_eqF, q_inT, q_bz0, q_bz1, b_T, b_F, true_and, and_true, if_true, if_false, z, vs, va, vc] at k4 ⊢ <;> exact k4
