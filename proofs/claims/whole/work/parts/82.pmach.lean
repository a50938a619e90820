/-! the pure side: the machine -/
/-- a state with another row in the place of one -/
def setM (σ : SS) (k : Nat) (f : Nat → Int32) : SS := (σ.1, (fun j => if j = k then f else σ.2.1 j), σ.2.2)
theorem sA_M (σ : SS) (k i : Nat) (v : Int32) : sA σ k i v = setM σ k (upd (σ.2.1 k) i v) := rfl
theorem setM_M (σ : SS) (k : Nat) (f g : Nat → Int32) : setM (setM σ k f) k g = setM σ k g := by
  unfold setM
  congr 2
  funext j
  by_cases h : j = k <;> simp [h]
theorem setM_self (σ : SS) (k : Nat) : setM σ k (σ.2.1 k) = σ := by
  unfold setM
  obtain ⟨a, b, c⟩ := σ
  congr 2
  funext j
  by_cases h : j = k <;> simp [h]
theorem setM_at (σ : SS) (k : Nat) (f : Nat → Int32) : (setM σ k f).2.1 k = f := by simp [setM]
theorem upd_self (f : Nat → Int32) (i : Nat) : upd f i (f i) = f := by
  funext j
  rw [u_at]
  by_cases h : j = i <;> simp [h]
theorem upd_W {f : Nat → Int32} (h : ∀ j, W16 (f j)) (i n : Nat) (hn : n < 65536) : ∀ j, W16 (upd f i (nI n) j) := by
  intro j
  rw [u_at]
  by_cases hj : j = i
  · simp only [hj, if_true]; exact ⟨n, hn, rfl⟩
  · simp only [hj, if_false]; exact h j
/-- how an address counts when it is met in a row of addresses -/
def stp (e m : Nat) : Nat := if 16 ≤ e ∧ e < 24 then (m + 1) % 65536 else if 24 ≤ e ∧ e < 32 then (m + 65535) % 65536 else m
theorem stp_lt {e m : Nat} (h : m < 65536) : stp e m < 65536 := by
  unfold stp; split
  · omega
  · split <;> omega
theorem c_cnt {post : Int32 → SS → Prop} {σ : SS} {e m : Nat} (he : e < 32768) (hm : m < 65536) (hv : σ.2.1 2 e = nI m) (h : post (nI (stp e m)) (setM σ 2 (upd (σ.2.1 2) e (nI (stp e m))))) :
    f_M_stepAt (fun r_2 σ_1 => f_M_countAt post σ_1 (nI e) r_2) σ (nI e) := by
  have e1 : e % 32768 = e := Nat.mod_eq_of_lt he
  simp only [f_M_stepAt, f_M_countAt, f_M_load, f_M_store]
  unfold stp at h
  by_cases h1 : e < 16
  · simp (disch := omega) only [nm, q_lit, q_add, q_sub, q_subN, q_n1, q_mul, q_div, q_nm, q_and, q_or, q_xor, q_shr, q_shl, q_cl, q_a1, q_a3, q_a7, q_a31, q_a63, q_a255, q_a15, q_a16, q_a17, q_a2, q_a4, q_a8, q_a1024, q_a65536, Nat.reduceMod, Nat.reducePow, Nat.reduceDiv, Nat.reduceMul, Nat.reduceAdd, Nat.reduceSub, Nat.reduceEqDiff, q_ltT, q_ltF, q_leT, q_leF, q_eqT, q_eqF, q_inT, q_bz0, q_bz1, b_T, b_F, true_and, and_true, if_true, if_false, e1, hv, h1]
    simpa (disch := omega) only [show ¬ (16 ≤ e ∧ e < 24) by omega, show ¬ (24 ≤ e ∧ e < 32) by omega, if_false, Nat.add_zero, Nat.mod_eq_of_lt hm, sA_M] using h
  by_cases h2 : e < 24
  · simp (disch := omega) only [nm, q_lit, q_add, q_sub, q_subN, q_n1, q_mul, q_div, q_nm, q_and, q_or, q_xor, q_shr, q_shl, q_cl, q_a1, q_a3, q_a7, q_a31, q_a63, q_a255, q_a15, q_a16, q_a17, q_a2, q_a4, q_a8, q_a1024, q_a65536, Nat.reduceMod, Nat.reducePow, Nat.reduceDiv, Nat.reduceMul, Nat.reduceAdd, Nat.reduceSub, Nat.reduceEqDiff, q_ltT, q_ltF, q_leT, q_leF, q_eqT, q_eqF, q_inT, q_bz0, q_bz1, b_T, b_F, true_and, and_true, if_true, if_false, e1, hv]
    simpa (disch := omega) only [show (16 ≤ e ∧ e < 24) by omega, if_true, and_self, sA_M] using h
  by_cases h3 : e < 32
  · simp (disch := omega) only [nm, q_lit, q_add, q_sub, q_subN, q_n1, q_mul, q_div, q_nm, q_and, q_or, q_xor, q_shr, q_shl, q_cl, q_a1, q_a3, q_a7, q_a31, q_a63, q_a255, q_a15, q_a16, q_a17, q_a2, q_a4, q_a8, q_a1024, q_a65536, Nat.reduceMod, Nat.reducePow, Nat.reduceDiv, Nat.reduceMul, Nat.reduceAdd, Nat.reduceSub, Nat.reduceEqDiff, q_ltT, q_ltF, q_leT, q_leF, q_eqT, q_eqF, q_inT, q_bz0, q_bz1, b_T, b_F, true_and, and_true, if_true, if_false, e1, hv]
    rw [show (m + 4294967295) % 65536 = (m + 65535) % 65536 by omega]
    simpa (disch := omega) only [show ¬ (16 ≤ e ∧ e < 24) by omega, show (24 ≤ e ∧ e < 32) by omega, if_true, if_false, and_self, sA_M] using h
  · simp (disch := omega) only [nm, q_lit, q_add, q_sub, q_subN, q_n1, q_mul, q_div, q_nm, q_and, q_or, q_xor, q_shr, q_shl, q_cl, q_a1, q_a3, q_a7, q_a31, q_a63, q_a255, q_a15, q_a16, q_a17, q_a2, q_a4, q_a8, q_a1024, q_a65536, Nat.reduceMod, Nat.reducePow, Nat.reduceDiv, Nat.reduceMul, Nat.reduceAdd, Nat.reduceSub, Nat.reduceEqDiff, q_ltT, q_ltF, q_leT, q_leF, q_eqT, q_eqF, q_inT, q_bz0, q_bz1, b_T, b_F, true_and, and_true, if_true, if_false, e1, hv]
    simpa (disch := omega) only [show ¬ (16 ≤ e ∧ e < 24) by omega, show ¬ (24 ≤ e ∧ e < 32) by omega, if_false, Nat.add_zero, Nat.mod_eq_of_lt hm, sA_M] using h
theorem r_cnt {post : Int32 → SS → Prop} {τ : SS} {n e m i : Nat} (he : e < 32768) (hi : i < 14) (hm : m < 65536) (hv : τ.2.1 1 e = nI m)
    (h1 : stp e m < 32768 → post (nI (stp e m)) (setM τ 1 (upd (τ.2.1 1) e (nI (stp e m)))))
    (h2 : 32768 ≤ stp e m → f_R_chase_4 post n (setM τ 1 (upd (τ.2.1 1) e (nI (stp e m)))) (nI (stp e m % 32768)) (nI (i + 1))) :
    f_R_chase_4 post (n + 1) τ (nI e) (nI i) := by
  have hl := stp_lt (e := e) hm
  have key : ∀ (τ' : SS) (v : Nat), v < 65536 → τ'.2.1 1 e = nI v → (v < 32768 → post (nI v) τ') → (32768 ≤ v → f_R_chase_4 post n τ' (nI (v % 32768)) (nI (i + 1))) → f_R_chase_69 post (f_R_chase_4 post n) τ' (nI e) (nI i) := by
    intro τ' v hv1 hv2 g1 g2
    simp only [f_R_chase_69]
    by_cases hb : v < 32768
    · simp (disch := omega) only [nm, q_lit, q_add, q_sub, q_subN, q_n1, q_mul, q_div, q_nm, q_and, q_or, q_xor, q_shr, q_shl, q_cl, q_a1, q_a3, q_a7, q_a31, q_a63, q_a255, q_a15, q_a16, q_a17, q_a2, q_a4, q_a8, q_a1024, q_a65536, Nat.reduceMod, Nat.reducePow, Nat.reduceDiv, Nat.reduceMul, Nat.reduceAdd, Nat.reduceSub, Nat.reduceEqDiff, q_ltT, q_ltF, q_leT, q_leF, q_eqT, q_eqF, q_inT, q_bz0, q_bz1, b_T, b_F, true_and, and_true, if_true, if_false, hv2, Nat.mod_eq_of_lt hb]
      exact g1 hb
    · simp (disch := omega) only [nm, q_lit, q_add, q_sub, q_subN, q_n1, q_mul, q_div, q_nm, q_and, q_or, q_xor, q_shr, q_shl, q_cl, q_a1, q_a3, q_a7, q_a31, q_a63, q_a255, q_a15, q_a16, q_a17, q_a2, q_a4, q_a8, q_a1024, q_a65536, Nat.reduceMod, Nat.reducePow, Nat.reduceDiv, Nat.reduceMul, Nat.reduceAdd, Nat.reduceSub, Nat.reduceEqDiff, q_ltT, q_ltF, q_leT, q_leF, q_eqT, q_eqF, q_inT, q_bz0, q_bz1, b_T, b_F, true_and, and_true, if_true, if_false, hv2]
      exact g2 (by omega)
  have es : stp e m = m → setM τ 1 (upd (τ.2.1 1) e (nI (stp e m))) = τ := by
    intro z
    rw [z, ← hv, upd_self, setM_self]
  simp only [f_R_chase_4, f_R_within, f_R_chase_38]
  by_cases c1 : e < 16
  · have z : stp e m = m := by unfold stp; simp (disch := omega) only [show ¬ (16 ≤ e ∧ e < 24) by omega, show ¬ (24 ≤ e ∧ e < 32) by omega, if_false]
    rw [es z, z] at h1 h2
    simp (disch := omega) only [nm, q_lit, q_add, q_sub, q_subN, q_n1, q_mul, q_div, q_nm, q_and, q_or, q_xor, q_shr, q_shl, q_cl, q_a1, q_a3, q_a7, q_a31, q_a63, q_a255, q_a15, q_a16, q_a17, q_a2, q_a4, q_a8, q_a1024, q_a65536, Nat.reduceMod, Nat.reducePow, Nat.reduceDiv, Nat.reduceMul, Nat.reduceAdd, Nat.reduceSub, Nat.reduceEqDiff, q_ltT, q_ltF, q_leT, q_leF, q_eqT, q_eqF, q_inT, q_bz0, q_bz1, b_T, b_F, true_and, and_true, if_true, if_false]
    exact key τ m hm hv h1 h2
  by_cases c2 : e < 24
  · have z : stp e m = (m + 1) % 65536 := by unfold stp; simp (disch := omega) only [show (16 ≤ e ∧ e < 24) by omega, if_true, and_self]
    simp (disch := omega) only [nm, q_lit, q_add, q_sub, q_subN, q_n1, q_mul, q_div, q_nm, q_and, q_or, q_xor, q_shr, q_shl, q_cl, q_a1, q_a3, q_a7, q_a31, q_a63, q_a255, q_a15, q_a16, q_a17, q_a2, q_a4, q_a8, q_a1024, q_a65536, Nat.reduceMod, Nat.reducePow, Nat.reduceDiv, Nat.reduceMul, Nat.reduceAdd, Nat.reduceSub, Nat.reduceEqDiff, q_ltT, q_ltF, q_leT, q_leF, q_eqT, q_eqF, q_inT, q_bz0, q_bz1, b_T, b_F, true_and, and_true, if_true, if_false, hv]
    refine key _ (stp e m) hl (by rw [sA_M, setM_at, u_at, z]; simp) ?_ ?_
    · rw [z] at h1 ⊢; exact h1
    · rw [z] at h2 ⊢; exact h2
  by_cases c3 : e < 32
  · have z : stp e m = (m + 65535) % 65536 := by unfold stp; simp (disch := omega) only [show ¬ (16 ≤ e ∧ e < 24) by omega, show (24 ≤ e ∧ e < 32) by omega, if_true, if_false, and_self]
    simp (disch := omega) only [nm, q_lit, q_add, q_sub, q_subN, q_n1, q_mul, q_div, q_nm, q_and, q_or, q_xor, q_shr, q_shl, q_cl, q_a1, q_a3, q_a7, q_a31, q_a63, q_a255, q_a15, q_a16, q_a17, q_a2, q_a4, q_a8, q_a1024, q_a65536, Nat.reduceMod, Nat.reducePow, Nat.reduceDiv, Nat.reduceMul, Nat.reduceAdd, Nat.reduceSub, Nat.reduceEqDiff, q_ltT, q_ltF, q_leT, q_leF, q_eqT, q_eqF, q_inT, q_bz0, q_bz1, b_T, b_F, true_and, and_true, if_true, if_false, hv]
    rw [show m + 65536 - 1 = m + 65535 by omega]
    refine key _ (stp e m) hl (by rw [sA_M, setM_at, u_at, z]; simp) ?_ ?_
    · rw [z] at h1 ⊢; exact h1
    · rw [z] at h2 ⊢; exact h2
  · have z : stp e m = m := by unfold stp; simp (disch := omega) only [show ¬ (16 ≤ e ∧ e < 24) by omega, show ¬ (24 ≤ e ∧ e < 32) by omega, if_false]
    rw [es z, z] at h1 h2
    simp (disch := omega) only [nm, q_lit, q_add, q_sub, q_subN, q_n1, q_mul, q_div, q_nm, q_and, q_or, q_xor, q_shr, q_shl, q_cl, q_a1, q_a3, q_a7, q_a31, q_a63, q_a255, q_a15, q_a16, q_a17, q_a2, q_a4, q_a8, q_a1024, q_a65536, Nat.reduceMod, Nat.reducePow, Nat.reduceDiv, Nat.reduceMul, Nat.reduceAdd, Nat.reduceSub, Nat.reduceEqDiff, q_ltT, q_ltF, q_leT, q_leF, q_eqT, q_eqF, q_inT, q_bz0, q_bz1, b_T, b_F, true_and, and_true, if_true, if_false]
    exact key τ m hm hv h1 h2
/-- a row of addresses: where it ends (32768: nowhere), and the memory behind it -/
def rowE : Nat → (Nat → Int32) → Nat → Nat × (Nat → Int32)
  | 0, f, _ => (32768, f)
  | k + 1, f, e => if stp e (f e).toNatClampNeg < 32768 then (stp e (f e).toNatClampNeg, upd f e (nI (stp e (f e).toNatClampNeg))) else rowE k (upd f e (nI (stp e (f e).toNatClampNeg))) (stp e (f e).toNatClampNeg % 32768)
theorem rowE_W (k : Nat) : ∀ (f : Nat → Int32) (e : Nat), (∀ j, W16 (f j)) → (∀ j, W16 ((rowE k f e).2 j)) ∧ (rowE k f e).1 ≤ 32768 := by
  induction k with
  | zero => intro f e h; exact ⟨h, Nat.le_refl _⟩
  | succ k ih =>
    intro f e h
    obtain ⟨m, hm, hv⟩ := h e
    have hl := stp_lt (e := e) hm
    have hW := upd_W h e (stp e m) hl
    simp only [rowE, hv]
    rw [q_cl (by omega)]
    by_cases c : stp e m < 32768
    · simp only [c, if_true]; exact ⟨hW, by omega⟩
    · simp only [c, if_false]; exact ih _ _ hW
theorem c_row (k : Nat) : ∀ (σ : SS) (e i : Nat) (post : Int32 → SS → Prop), i + k = 14 → e < 32768 → (∀ j, W16 (σ.2.1 2 j)) → post (if (rowE k (σ.2.1 2) e).1 = 32768 then -1 else nI (rowE k (σ.2.1 2) e).1) (setM σ 2 (rowE k (σ.2.1 2) e).2) → f_M_endOfRow_4 post (k + 1) σ (nI e) (nI i) := by
  induction k with
  | zero =>
    intro σ e i post hi he hW h
    simp only [rowE, if_true, setM_self] at h
    simp only [f_M_endOfRow_4]
    exact b_t (by rw [q_lit, q_le (by omega) (by omega)]; omega) h
  | succ k ih =>
    intro σ e i post hi he hW h
    obtain ⟨m, hm, hv⟩ := hW e
    have hl := stp_lt (e := e) hm
    rw [f_M_endOfRow_4]
    refine b_f (by rw [q_lit, q_le (by omega) (by omega)]; omega) (c_cnt he hm hv ?_)
    simp only [rowE, hv] at h
    rw [q_cl (by omega)] at h
    by_cases c : stp e m < 32768
    · simp only [c, if_true] at h
      simp (disch := omega) only [nm, q_lit, q_add, q_sub, q_subN, q_n1, q_mul, q_div, q_nm, q_and, q_or, q_xor, q_shr, q_shl, q_cl, q_a1, q_a3, q_a7, q_a31, q_a63, q_a255, q_a15, q_a16, q_a17, q_a2, q_a4, q_a8, q_a1024, q_a65536, Nat.reduceMod, Nat.reducePow, Nat.reduceDiv, Nat.reduceMul, Nat.reduceAdd, Nat.reduceSub, Nat.reduceEqDiff, q_ltT, q_ltF, q_leT, q_leF, q_eqT, q_eqF, q_inT, q_bz0, q_bz1, b_T, b_F, true_and, and_true, if_true, if_false, Nat.mod_eq_of_lt c]
      simpa only [show ¬ stp e m = 32768 by omega, if_false] using h
    · simp only [c, if_false] at h
      simp (disch := omega) only [nm, q_lit, q_add, q_sub, q_subN, q_n1, q_mul, q_div, q_nm, q_and, q_or, q_xor, q_shr, q_shl, q_cl, q_a1, q_a3, q_a7, q_a31, q_a63, q_a255, q_a15, q_a16, q_a17, q_a2, q_a4, q_a8, q_a1024, q_a65536, Nat.reduceMod, Nat.reducePow, Nat.reduceDiv, Nat.reduceMul, Nat.reduceAdd, Nat.reduceSub, Nat.reduceEqDiff, q_ltT, q_ltF, q_leT, q_leF, q_eqT, q_eqF, q_inT, q_bz0, q_bz1, b_T, b_F, true_and, and_true, if_true, if_false]
      refine ih _ _ _ _ (by omega) (by omega) (by rw [setM_at]; exact upd_W hW e _ hl) ?_
      rw [setM_at, setM_M]
      exact h
theorem r_row (k : Nat) : ∀ (τ : SS) (e i : Nat) (post : Int32 → SS → Prop), i + k = 14 → e < 32768 → (∀ j, W16 (τ.2.1 1 j)) → (if (rowE k (τ.2.1 1) e).1 = 32768 then post 0 (sI (setM τ 1 (rowE k (τ.2.1 1) e).2) 8 1) else post (nI (rowE k (τ.2.1 1) e).1) (setM τ 1 (rowE k (τ.2.1 1) e).2)) → f_R_chase_4 post (k + 1) τ (nI e) (nI i) := by
  induction k with
  | zero =>
    intro τ e i post hi he hW h
    simp only [rowE, if_true, setM_self] at h
    simp only [f_R_chase_4]
    exact b_t (by rw [q_lit, q_le (by omega) (by omega)]; omega) h
  | succ k ih =>
    intro τ e i post hi he hW h
    obtain ⟨m, hm, hv⟩ := hW e
    have hl := stp_lt (e := e) hm
    simp only [rowE, hv] at h
    rw [q_cl (by omega)] at h
    refine r_cnt he (by omega) hm hv (fun c => ?_) (fun c => ?_)
    · simp only [c, if_true] at h
      simpa only [show ¬ stp e m = 32768 by omega, if_false] using h
    · simp only [show ¬ stp e m < 32768 by omega, if_false] at h
      refine ih _ _ _ _ (by omega) (by omega) (by rw [setM_at]; exact upd_W hW e _ hl) ?_
      rw [setM_at, setM_M]
      exact h
theorem c_endOfRow {σ : SS} {e : Nat} {post : Int32 → SS → Prop} (he : e < 32768) (hW : ∀ j, W16 (σ.2.1 2 j)) (h : post (if (rowE 14 (σ.2.1 2) e).1 = 32768 then -1 else nI (rowE 14 (σ.2.1 2) e).1) (setM σ 2 (rowE 14 (σ.2.1 2) e).2)) : f_M_endOfRow post σ (nI e) := ⟨15, c_row 14 σ e 0 post rfl he hW h⟩
theorem r_chase {τ : SS} {e : Nat} {post : Int32 → SS → Prop} (he : e < 32768) (hW : ∀ j, W16 (τ.2.1 1 j)) (h : if (rowE 14 (τ.2.1 1) e).1 = 32768 then post 0 (sI (setM τ 1 (rowE 14 (τ.2.1 1) e).2) 8 1) else post (nI (rowE 14 (τ.2.1 1) e).1) (setM τ 1 (rowE 14 (τ.2.1 1) e).2)) : f_R_chase post τ (nI e) := ⟨15, r_row 14 τ e 0 post rfl he hW h⟩
/-- the address that an instruction names, before any row -/
def eA (w p : Nat) (acc : Nat → Int32) : Nat := if w / 256 % 4 = 0 then w % 256 else ((if w / 256 % 4 = 1 then p else (acc (w / 256 % 4)).toNatClampNeg) + (if w % 256 < 128 then w % 256 else w % 256 + 65280)) % 32768
theorem eA_0 {w p : Nat} {acc : Nat → Int32} (c : w / 256 % 4 = 0) : eA w p acc = w % 256 := by unfold eA; rw [if_pos c]
theorem eA_1 {w p : Nat} {acc : Nat → Int32} (c : w / 256 % 4 = 1) : eA w p acc = (p + (if w % 256 < 128 then w % 256 else w % 256 + 65280)) % 32768 := by unfold eA; rw [if_neg (by omega), if_pos c]
theorem eA_2 {w p a k : Nat} {acc : Nat → Int32} (c : w / 256 % 4 = k) (hk : 2 ≤ k) (ha : a < 65536) (hv : acc k = nI a) : eA w p acc = (a + (if w % 256 < 128 then w % 256 else w % 256 + 65280)) % 32768 := by
  unfold eA; rw [if_neg (by omega), if_neg (by omega), c, hv, q_cl (by omega)]
theorem eA_lt (w p : Nat) (acc : Nat → Int32) : eA w p acc < 32768 := by
  unfold eA
  split <;> omega
theorem c_addressOf {σ : SS} {w p : Nat} {post : Int32 → SS → Prop} (hw : w < 65536) (hp : p < 32768) (hv : σ.1 1 = nI p) (hW : ∀ j, W16 (σ.2.1 3 j)) (h0 : w / 1024 % 2 = 0 → post (nI (eA w p (σ.2.1 3))) σ) (h1 : w / 1024 % 2 = 1 → f_M_endOfRow post σ (nI (eA w p (σ.2.1 3)))) : f_M_addressOf post σ (nI w) := by
  obtain ⟨a2, ha2, v2⟩ := hW 2
  obtain ⟨a3, ha3, v3⟩ := hW 3
  have fin : ∀ x : Nat, x % 32768 = eA w p (σ.2.1 3) → f_M_addressOf_96 post σ (nI w) (nI x) := by
    intro x hx
    simp only [f_M_addressOf_96]
    rcases Nat.mod_two_eq_zero_or_one (w / 1024) with c | c
    · simp (disch := omega) only [nm, q_lit, q_add, q_sub, q_subN, q_n1, q_mul, q_div, q_nm, q_and, q_or, q_xor, q_shr, q_shl, q_cl, q_a1, q_a3, q_a7, q_a31, q_a63, q_a255, q_a15, q_a16, q_a17, q_a2, q_a4, q_a8, q_a1024, q_a65536, Nat.reduceMod, Nat.reducePow, Nat.reduceDiv, Nat.reduceMul, Nat.reduceAdd, Nat.reduceSub, Nat.reduceEqDiff, q_ltT, q_ltF, q_leT, q_leF, q_eqT, q_eqF, q_inT, q_bz0, q_bz1, b_T, b_F, true_and, and_true, if_true, if_false, hx, c]
      exact h0 c
    · simp (disch := omega) only [nm, q_lit, q_add, q_sub, q_subN, q_n1, q_mul, q_div, q_nm, q_and, q_or, q_xor, q_shr, q_shl, q_cl, q_a1, q_a3, q_a7, q_a31, q_a63, q_a255, q_a15, q_a16, q_a17, q_a2, q_a4, q_a8, q_a1024, q_a65536, Nat.reduceMod, Nat.reducePow, Nat.reduceDiv, Nat.reduceMul, Nat.reduceAdd, Nat.reduceSub, Nat.reduceEqDiff, q_ltT, q_ltF, q_leT, q_leF, q_eqT, q_eqF, q_inT, q_bz0, q_bz1, b_T, b_F, true_and, and_true, if_true, if_false, hx, c]
      exact h1 c
  have hm : w / 256 % 4 = 0 ∨ w / 256 % 4 = 1 ∨ w / 256 % 4 = 2 ∨ w / 256 % 4 = 3 := by omega
  simp only [f_M_addressOf, f_M_addressOf_22]
  by_cases hd : w % 256 < 128
  · rcases hm with c | c | c | c
    · simp (disch := omega) only [nm, q_lit, q_add, q_sub, q_subN, q_n1, q_mul, q_div, q_nm, q_and, q_or, q_xor, q_shr, q_shl, q_cl, q_a1, q_a3, q_a7, q_a31, q_a63, q_a255, q_a15, q_a16, q_a17, q_a2, q_a4, q_a8, q_a1024, q_a65536, Nat.reduceMod, Nat.reducePow, Nat.reduceDiv, Nat.reduceMul, Nat.reduceAdd, Nat.reduceSub, Nat.reduceEqDiff, q_ltT, q_ltF, q_leT, q_leF, q_eqT, q_eqF, q_inT, q_bz0, q_bz1, b_T, b_F, true_and, and_true, if_true, if_false, c]
      exact fin _ (by (rw [eA_0 c]); try omega)
    · simp (disch := omega) only [nm, q_lit, q_add, q_sub, q_subN, q_n1, q_mul, q_div, q_nm, q_and, q_or, q_xor, q_shr, q_shl, q_cl, q_a1, q_a3, q_a7, q_a31, q_a63, q_a255, q_a15, q_a16, q_a17, q_a2, q_a4, q_a8, q_a1024, q_a65536, Nat.reduceMod, Nat.reducePow, Nat.reduceDiv, Nat.reduceMul, Nat.reduceAdd, Nat.reduceSub, Nat.reduceEqDiff, q_ltT, q_ltF, q_leT, q_leF, q_eqT, q_eqF, q_inT, q_bz0, q_bz1, b_T, b_F, true_and, and_true, if_true, if_false, c, hv]
      exact fin _ (by (rw [eA_1 c, if_pos hd]); try omega)
    · simp (disch := omega) only [nm, q_lit, q_add, q_sub, q_subN, q_n1, q_mul, q_div, q_nm, q_and, q_or, q_xor, q_shr, q_shl, q_cl, q_a1, q_a3, q_a7, q_a31, q_a63, q_a255, q_a15, q_a16, q_a17, q_a2, q_a4, q_a8, q_a1024, q_a65536, Nat.reduceMod, Nat.reducePow, Nat.reduceDiv, Nat.reduceMul, Nat.reduceAdd, Nat.reduceSub, Nat.reduceEqDiff, q_ltT, q_ltF, q_leT, q_leF, q_eqT, q_eqF, q_inT, q_bz0, q_bz1, b_T, b_F, true_and, and_true, if_true, if_false, c, v2]
      exact fin _ (by (rw [eA_2 c (by omega) ha2 v2, if_pos hd]); try omega)
    · simp (disch := omega) only [nm, q_lit, q_add, q_sub, q_subN, q_n1, q_mul, q_div, q_nm, q_and, q_or, q_xor, q_shr, q_shl, q_cl, q_a1, q_a3, q_a7, q_a31, q_a63, q_a255, q_a15, q_a16, q_a17, q_a2, q_a4, q_a8, q_a1024, q_a65536, Nat.reduceMod, Nat.reducePow, Nat.reduceDiv, Nat.reduceMul, Nat.reduceAdd, Nat.reduceSub, Nat.reduceEqDiff, q_ltT, q_ltF, q_leT, q_leF, q_eqT, q_eqF, q_inT, q_bz0, q_bz1, b_T, b_F, true_and, and_true, if_true, if_false, c, v3]
      exact fin _ (by (rw [eA_2 c (by omega) ha3 v3, if_pos hd]); try omega)
  · rcases hm with c | c | c | c
    · simp (disch := omega) only [nm, q_lit, q_add, q_sub, q_subN, q_n1, q_mul, q_div, q_nm, q_and, q_or, q_xor, q_shr, q_shl, q_cl, q_a1, q_a3, q_a7, q_a31, q_a63, q_a255, q_a15, q_a16, q_a17, q_a2, q_a4, q_a8, q_a1024, q_a65536, Nat.reduceMod, Nat.reducePow, Nat.reduceDiv, Nat.reduceMul, Nat.reduceAdd, Nat.reduceSub, Nat.reduceEqDiff, q_ltT, q_ltF, q_leT, q_leF, q_eqT, q_eqF, q_inT, q_bz0, q_bz1, b_T, b_F, true_and, and_true, if_true, if_false, c]
      exact fin _ (by (rw [eA_0 c]); try omega)
    · simp (disch := omega) only [nm, q_lit, q_add, q_sub, q_subN, q_n1, q_mul, q_div, q_nm, q_and, q_or, q_xor, q_shr, q_shl, q_cl, q_a1, q_a3, q_a7, q_a31, q_a63, q_a255, q_a15, q_a16, q_a17, q_a2, q_a4, q_a8, q_a1024, q_a65536, Nat.reduceMod, Nat.reducePow, Nat.reduceDiv, Nat.reduceMul, Nat.reduceAdd, Nat.reduceSub, Nat.reduceEqDiff, q_ltT, q_ltF, q_leT, q_leF, q_eqT, q_eqF, q_inT, q_bz0, q_bz1, b_T, b_F, true_and, and_true, if_true, if_false, c, hv]
      exact fin _ (by (rw [eA_1 c, if_neg hd]); try omega)
    · simp (disch := omega) only [nm, q_lit, q_add, q_sub, q_subN, q_n1, q_mul, q_div, q_nm, q_and, q_or, q_xor, q_shr, q_shl, q_cl, q_a1, q_a3, q_a7, q_a31, q_a63, q_a255, q_a15, q_a16, q_a17, q_a2, q_a4, q_a8, q_a1024, q_a65536, Nat.reduceMod, Nat.reducePow, Nat.reduceDiv, Nat.reduceMul, Nat.reduceAdd, Nat.reduceSub, Nat.reduceEqDiff, q_ltT, q_ltF, q_leT, q_leF, q_eqT, q_eqF, q_inT, q_bz0, q_bz1, b_T, b_F, true_and, and_true, if_true, if_false, c, v2]
      exact fin _ (by (rw [eA_2 c (by omega) ha2 v2, if_neg hd]); try omega)
    · simp (disch := omega) only [nm, q_lit, q_add, q_sub, q_subN, q_n1, q_mul, q_div, q_nm, q_and, q_or, q_xor, q_shr, q_shl, q_cl, q_a1, q_a3, q_a7, q_a31, q_a63, q_a255, q_a15, q_a16, q_a17, q_a2, q_a4, q_a8, q_a1024, q_a65536, Nat.reduceMod, Nat.reducePow, Nat.reduceDiv, Nat.reduceMul, Nat.reduceAdd, Nat.reduceSub, Nat.reduceEqDiff, q_ltT, q_ltF, q_leT, q_leF, q_eqT, q_eqF, q_inT, q_bz0, q_bz1, b_T, b_F, true_and, and_true, if_true, if_false, c, v3]
      exact fin _ (by (rw [eA_2 c (by omega) ha3 v3, if_neg hd]); try omega)
theorem r_addressOf {σ : SS} {w p : Nat} {post : Int32 → SS → Prop} (hw : w < 65536) (hp : p < 32768) (hv : σ.1 1 = nI p) (hW : ∀ j, W16 (σ.2.1 2 j)) (h0 : w / 1024 % 2 = 0 → post (nI (eA w p (σ.2.1 2))) σ) (h1 : w / 1024 % 2 = 1 → f_R_chase post σ (nI (eA w p (σ.2.1 2)))) : f_R_addressOf post σ (nI w) := by
  obtain ⟨a2, ha2, v2⟩ := hW 2
  obtain ⟨a3, ha3, v3⟩ := hW 3
  have fin : ∀ x y : Nat, x < 65536 → y < 131072 → (x + y) % 32768 = eA w p (σ.2.1 2) → f_R_addressOf_57 post σ (nI w) (nI y) (nI x) := by
    intro x y hx1 hy1 hx
    simp only [f_R_addressOf_57]
    rcases Nat.mod_two_eq_zero_or_one (w / 1024) with c | c
    · simp (disch := omega) only [nm, q_lit, q_add, q_sub, q_subN, q_n1, q_mul, q_div, q_nm, q_and, q_or, q_xor, q_shr, q_shl, q_cl, q_a1, q_a3, q_a7, q_a31, q_a63, q_a255, q_a15, q_a16, q_a17, q_a2, q_a4, q_a8, q_a1024, q_a65536, Nat.reduceMod, Nat.reducePow, Nat.reduceDiv, Nat.reduceMul, Nat.reduceAdd, Nat.reduceSub, Nat.reduceEqDiff, q_ltT, q_ltF, q_leT, q_leF, q_eqT, q_eqF, q_inT, q_bz0, q_bz1, b_T, b_F, true_and, and_true, if_true, if_false, hx, c]
      exact h0 c
    · simp (disch := omega) only [nm, q_lit, q_add, q_sub, q_subN, q_n1, q_mul, q_div, q_nm, q_and, q_or, q_xor, q_shr, q_shl, q_cl, q_a1, q_a3, q_a7, q_a31, q_a63, q_a255, q_a15, q_a16, q_a17, q_a2, q_a4, q_a8, q_a1024, q_a65536, Nat.reduceMod, Nat.reducePow, Nat.reduceDiv, Nat.reduceMul, Nat.reduceAdd, Nat.reduceSub, Nat.reduceEqDiff, q_ltT, q_ltF, q_leT, q_leF, q_eqT, q_eqF, q_inT, q_bz0, q_bz1, b_T, b_F, true_and, and_true, if_true, if_false, hx, c]
      exact h1 c
  have hm : w / 256 % 4 = 0 ∨ w / 256 % 4 = 1 ∨ w / 256 % 4 = 2 ∨ w / 256 % 4 = 3 := by omega
  simp only [f_R_addressOf, f_R_addressOf_40]
  by_cases hd : w % 256 < 128
  · rcases hm with c | c | c | c
    · simp (disch := omega) only [nm, q_lit, q_add, q_sub, q_subN, q_n1, q_mul, q_div, q_nm, q_and, q_or, q_xor, q_shr, q_shl, q_cl, q_a1, q_a3, q_a7, q_a31, q_a63, q_a255, q_a15, q_a16, q_a17, q_a2, q_a4, q_a8, q_a1024, q_a65536, Nat.reduceMod, Nat.reducePow, Nat.reduceDiv, Nat.reduceMul, Nat.reduceAdd, Nat.reduceSub, Nat.reduceEqDiff, q_ltT, q_ltF, q_leT, q_leF, q_eqT, q_eqF, q_inT, q_bz0, q_bz1, b_T, b_F, true_and, and_true, if_true, if_false, c]
      exact fin _ _ (by omega) (by omega) (by (rw [eA_0 c]); try omega)
    · simp (disch := omega) only [nm, q_lit, q_add, q_sub, q_subN, q_n1, q_mul, q_div, q_nm, q_and, q_or, q_xor, q_shr, q_shl, q_cl, q_a1, q_a3, q_a7, q_a31, q_a63, q_a255, q_a15, q_a16, q_a17, q_a2, q_a4, q_a8, q_a1024, q_a65536, Nat.reduceMod, Nat.reducePow, Nat.reduceDiv, Nat.reduceMul, Nat.reduceAdd, Nat.reduceSub, Nat.reduceEqDiff, q_ltT, q_ltF, q_leT, q_leF, q_eqT, q_eqF, q_inT, q_bz0, q_bz1, b_T, b_F, true_and, and_true, if_true, if_false, c, hv]
      exact fin _ _ (by omega) (by omega) (by (rw [eA_1 c, if_pos hd]); try omega)
    · simp (disch := omega) only [nm, q_lit, q_add, q_sub, q_subN, q_n1, q_mul, q_div, q_nm, q_and, q_or, q_xor, q_shr, q_shl, q_cl, q_a1, q_a3, q_a7, q_a31, q_a63, q_a255, q_a15, q_a16, q_a17, q_a2, q_a4, q_a8, q_a1024, q_a65536, Nat.reduceMod, Nat.reducePow, Nat.reduceDiv, Nat.reduceMul, Nat.reduceAdd, Nat.reduceSub, Nat.reduceEqDiff, q_ltT, q_ltF, q_leT, q_leF, q_eqT, q_eqF, q_inT, q_bz0, q_bz1, b_T, b_F, true_and, and_true, if_true, if_false, c, v2]
      exact fin _ _ (by omega) (by omega) (by (rw [eA_2 c (by omega) ha2 v2, if_pos hd]); try omega)
    · simp (disch := omega) only [nm, q_lit, q_add, q_sub, q_subN, q_n1, q_mul, q_div, q_nm, q_and, q_or, q_xor, q_shr, q_shl, q_cl, q_a1, q_a3, q_a7, q_a31, q_a63, q_a255, q_a15, q_a16, q_a17, q_a2, q_a4, q_a8, q_a1024, q_a65536, Nat.reduceMod, Nat.reducePow, Nat.reduceDiv, Nat.reduceMul, Nat.reduceAdd, Nat.reduceSub, Nat.reduceEqDiff, q_ltT, q_ltF, q_leT, q_leF, q_eqT, q_eqF, q_inT, q_bz0, q_bz1, b_T, b_F, true_and, and_true, if_true, if_false, c, v3]
      exact fin _ _ (by omega) (by omega) (by (rw [eA_2 c (by omega) ha3 v3, if_pos hd]); try omega)
  · rcases hm with c | c | c | c
    · simp (disch := omega) only [nm, q_lit, q_add, q_sub, q_subN, q_n1, q_mul, q_div, q_nm, q_and, q_or, q_xor, q_shr, q_shl, q_cl, q_a1, q_a3, q_a7, q_a31, q_a63, q_a255, q_a15, q_a16, q_a17, q_a2, q_a4, q_a8, q_a1024, q_a65536, Nat.reduceMod, Nat.reducePow, Nat.reduceDiv, Nat.reduceMul, Nat.reduceAdd, Nat.reduceSub, Nat.reduceEqDiff, q_ltT, q_ltF, q_leT, q_leF, q_eqT, q_eqF, q_inT, q_bz0, q_bz1, b_T, b_F, true_and, and_true, if_true, if_false, c]
      exact fin _ _ (by omega) (by omega) (by (rw [eA_0 c]); try omega)
    · simp (disch := omega) only [nm, q_lit, q_add, q_sub, q_subN, q_n1, q_mul, q_div, q_nm, q_and, q_or, q_xor, q_shr, q_shl, q_cl, q_a1, q_a3, q_a7, q_a31, q_a63, q_a255, q_a15, q_a16, q_a17, q_a2, q_a4, q_a8, q_a1024, q_a65536, Nat.reduceMod, Nat.reducePow, Nat.reduceDiv, Nat.reduceMul, Nat.reduceAdd, Nat.reduceSub, Nat.reduceEqDiff, q_ltT, q_ltF, q_leT, q_leF, q_eqT, q_eqF, q_inT, q_bz0, q_bz1, b_T, b_F, true_and, and_true, if_true, if_false, c, hv]
      exact fin _ _ (by omega) (by omega) (by (rw [eA_1 c, if_neg hd]); try omega)
    · simp (disch := omega) only [nm, q_lit, q_add, q_sub, q_subN, q_n1, q_mul, q_div, q_nm, q_and, q_or, q_xor, q_shr, q_shl, q_cl, q_a1, q_a3, q_a7, q_a31, q_a63, q_a255, q_a15, q_a16, q_a17, q_a2, q_a4, q_a8, q_a1024, q_a65536, Nat.reduceMod, Nat.reducePow, Nat.reduceDiv, Nat.reduceMul, Nat.reduceAdd, Nat.reduceSub, Nat.reduceEqDiff, q_ltT, q_ltF, q_leT, q_leF, q_eqT, q_eqF, q_inT, q_bz0, q_bz1, b_T, b_F, true_and, and_true, if_true, if_false, c, v2]
      exact fin _ _ (by omega) (by omega) (by (rw [eA_2 c (by omega) ha2 v2, if_neg hd]); try omega)
    · simp (disch := omega) only [nm, q_lit, q_add, q_sub, q_subN, q_n1, q_mul, q_div, q_nm, q_and, q_or, q_xor, q_shr, q_shl, q_cl, q_a1, q_a3, q_a7, q_a31, q_a63, q_a255, q_a15, q_a16, q_a17, q_a2, q_a4, q_a8, q_a1024, q_a65536, Nat.reduceMod, Nat.reducePow, Nat.reduceDiv, Nat.reduceMul, Nat.reduceAdd, Nat.reduceSub, Nat.reduceEqDiff, q_ltT, q_ltF, q_leT, q_leF, q_eqT, q_eqF, q_inT, q_bz0, q_bz1, b_T, b_F, true_and, and_true, if_true, if_false, c, v3]
      exact fin _ _ (by omega) (by omega) (by (rw [eA_2 c (by omega) ha3 v3, if_neg hd]); try omega)
