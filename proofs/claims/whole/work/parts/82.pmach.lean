/-! the pure side: the machine -/
/-- a state with another row in the place of one -/
def setM (σ : SS) (k : Nat) (f : Nat → Int32) : SS := (σ.1, (fun j => if j = k then f else σ.2.1 j), σ.2.2)
theorem sA_M (σ : SS) (k i : Nat) (v : Int32) : sA σ k i v = setM σ k (upd (σ.2.1 k) i v) := rfl
theorem setM_M (σ : SS) (k : Nat) (f g : Nat → Int32) : setM (setM σ k f) k g = setM σ k g := by
  unfold setM
  congr 2
  funext j
  by_cases h : j = k <;> simp [h]
theorem setM_self (σ : SS) (k : Nat) : setM σ k (σ.2.1 k) = σ := by
  unfold setM
  obtain ⟨a, b, c⟩ := σ
  congr 2
  funext j
  by_cases h : j = k <;> simp [h]
theorem setM_at (σ : SS) (k : Nat) (f : Nat → Int32) : (setM σ k f).2.1 k = f := by simp [setM]
theorem upd_self (f : Nat → Int32) (i : Nat) : upd f i (f i) = f := by
  funext j
  rw [u_at]
  by_cases h : j = i <;> simp [h]
theorem upd_W {f : Nat → Int32} (h : ∀ j, W16 (f j)) (i n : Nat) (hn : n < 65536) : ∀ j, W16 (upd f i (nI n) j) := by
  intro j
  rw [u_at]
  by_cases hj : j = i
  · simp only [hj, if_true]; exact ⟨n, hn, rfl⟩
  · simp only [hj, if_false]; exact h j
/-- how an address counts when it is met in a row of addresses -/
def stp (e m : Nat) : Nat := if 16 ≤ e ∧ e < 24 then (m + 1) % 65536 else if 24 ≤ e ∧ e < 32 then (m + 65535) % 65536 else m
theorem stp_lt {e m : Nat} (h : m < 65536) : stp e m < 65536 := by
  unfold stp; split
  · omega
  · split <;> omega
theorem c_cnt {post : Int32 → SS → Prop} {σ : SS} {e m : Nat} (he : e < 32768) (hm : m < 65536) (hv : σ.2.1 2 e = nI m) (h : post (nI (stp e m)) (setM σ 2 (upd (σ.2.1 2) e (nI (stp e m))))) :
    f_M_stepAt (fun r_2 σ_1 => f_M_countAt post σ_1 (nI e) r_2) σ (nI e) := by
  have e1 : e % 32768 = e := Nat.mod_eq_of_lt he
  simp only [f_M_stepAt, f_M_countAt, f_M_load, f_M_store]
  unfold stp at h
  by_cases h1 : e < 16
  · simp (disch := omega) only [q_lit, q_add, q_sub, q_subN, q_n1, q_mul, q_div, q_nm, q_and, q_or, q_xor, q_shr, q_shl, q_cl, q_a1, q_a3, q_a7, q_a31, q_a63, q_a255, q_a15, q_a16, q_a17, q_a2, q_a4, q_a8, q_a1024, q_a65536, q_ltT, q_ltF, q_leT, q_leF, q_eqT, q_eqF, q_inT, q_bz0, q_bz1, b_T, b_F, true_and, and_true, if_true, if_false, e1, hv, h1]
    simpa (disch := omega) only [show ¬ (16 ≤ e ∧ e < 24) by omega, show ¬ (24 ≤ e ∧ e < 32) by omega, if_false, Nat.add_zero, Nat.mod_eq_of_lt hm] using h
  by_cases h2 : e < 24
  · simp (disch := omega) only [q_lit, q_add, q_sub, q_subN, q_n1, q_mul, q_div, q_nm, q_and, q_or, q_xor, q_shr, q_shl, q_cl, q_a1, q_a3, q_a7, q_a31, q_a63, q_a255, q_a15, q_a16, q_a17, q_a2, q_a4, q_a8, q_a1024, q_a65536, q_ltT, q_ltF, q_leT, q_leF, q_eqT, q_eqF, q_inT, q_bz0, q_bz1, b_T, b_F, true_and, and_true, if_true, if_false, e1, hv]
    simpa (disch := omega) only [show (16 ≤ e ∧ e < 24) by omega, if_true, and_self] using h
  by_cases h3 : e < 32
  · simp (disch := omega) only [q_lit, q_add, q_sub, q_subN, q_n1, q_mul, q_div, q_nm, q_and, q_or, q_xor, q_shr, q_shl, q_cl, q_a1, q_a3, q_a7, q_a31, q_a63, q_a255, q_a15, q_a16, q_a17, q_a2, q_a4, q_a8, q_a1024, q_a65536, q_ltT, q_ltF, q_leT, q_leF, q_eqT, q_eqF, q_inT, q_bz0, q_bz1, b_T, b_F, true_and, and_true, if_true, if_false, e1, hv]
    rw [show (m + 4294967295) % 65536 = (m + 65535) % 65536 by omega]
    simpa (disch := omega) only [show ¬ (16 ≤ e ∧ e < 24) by omega, show (24 ≤ e ∧ e < 32) by omega, if_true, if_false, and_self] using h
  · simp (disch := omega) only [q_lit, q_add, q_sub, q_subN, q_n1, q_mul, q_div, q_nm, q_and, q_or, q_xor, q_shr, q_shl, q_cl, q_a1, q_a3, q_a7, q_a31, q_a63, q_a255, q_a15, q_a16, q_a17, q_a2, q_a4, q_a8, q_a1024, q_a65536, q_ltT, q_ltF, q_leT, q_leF, q_eqT, q_eqF, q_inT, q_bz0, q_bz1, b_T, b_F, true_and, and_true, if_true, if_false, e1, hv]
    simpa (disch := omega) only [show ¬ (16 ≤ e ∧ e < 24) by omega, show ¬ (24 ≤ e ∧ e < 32) by omega, if_false, Nat.add_zero, Nat.mod_eq_of_lt hm] using h
