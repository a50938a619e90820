/-! the pure side: the assembler's ends -/
def f_sw (post : Int32 → SS → Prop) (σ : SS) : Prop := br (σ.1 24 = 0) (br (σ.1 25 = 0) (nm (sI σ 24 0) fun σ_1 => nm (sI σ_1 25 0) fun σ_2 => post (σ_2.1 26) σ_2) (nm (sI σ 24 1) fun σ_3 => nm (sI σ_3 25 0) fun σ_4 => post (σ_4.1 26) σ_4)) (br (σ.1 25 = 0) (nm (sI σ 24 0) fun σ_5 => nm (sI σ_5 25 1) fun σ_6 => post (σ_6.1 26) σ_6) (nm (sI σ 24 1) fun σ_7 => nm (sI σ_7 25 1) fun σ_8 => post (σ_8.1 26) σ_8))
theorem c_finL {u : SS} {ws : Ws} {post : Int32 → SS → Prop} (hM : MdC u ws) (ho : WsOK ws) : ∀ k i M, i + k = ws.length → f_sw post (setM u 2 (putW M (ws.drop i))) → f_A_finish_19_11 post (k + 1) (setM u 2 M) (nI i) := by
  obtain ⟨m1, m2, m3⟩ := hM
  intro k
  induction k with
  | zero =>
    intro i M hi h
    rw [List.drop_of_length_le (by omega)] at h
    rw [f_A_finish_19_11]
    exact b_t (by show u.1 26 ≤ nI i; rw [m2, q_le (by omega) (by omega)]; omega) h
  | succ k ih =>
    intro i M hi h
    rw [putW_d (by omega)] at h
    obtain ⟨o1, o2⟩ := ho.at (i := i) (by omega)
    obtain ⟨a1, a2⟩ := m3 i (by omega)
    rw [f_A_finish_19_11]
    refine b_f (by show ¬ u.1 26 ≤ nI i; rw [m2, q_le (by omega) (by omega)]; omega) ⟨by rw [q_in (by omega)]; omega, by rw [q_in (by omega)]; omega, ?_⟩
    show f_M_store _ (setM u 2 M) (u.2.1 20 (nI i).toNatClampNeg) (u.2.1 21 (nI i).toNatClampNeg)
    rw [q_cl (by omega), a1, a2]
    have e : nI (ws.getD i (0, 0)).1 &&& 32767 = nI (ws.getD i (0, 0)).1 := by
      rw [q_lit, q_and, q_a15, Nat.mod_eq_of_lt o1]
    simp only [f_M_store, nm]
    rw [e]
    refine ⟨by rw [q_in (by omega)]; exact o1, ?_⟩
    rw [q_cl (by omega), sA_M, setM_M, setM_at, show nI i + 1 = nI (i + 1) from q_add i 1]
    exact ih (i + 1) _ (by omega) h
theorem r_91 {v : SS} {lb : Lb} {post : Int32 → SS → Prop} (hL : LbR v lb) (h : ∀ w, (∀ k, w.1 k = v.1 k) → (∀ k, k ≠ 13 → w.2.1 k = v.2.1 k) → (∀ k, k ≠ 12 → w.2.2.2 k = v.2.2.2 k) → (∀ j, j < lb.length → w.2.2.2 12 j = v.2.2.2 10 j ∧ w.2.1 13 j = v.2.1 11 j) → post (v.1 18) (sI w 17 (nI lb.length))) : ∃ n9, f_R_assemble_91 post n9 v 0 := by
  obtain ⟨t1, t2, t3⟩ := hL
  have L : ∀ k i w, i + k = lb.length → (∀ k, w.1 k = v.1 k) → (∀ k, k ≠ 13 → w.2.1 k = v.2.1 k) → (∀ k, k ≠ 12 → w.2.2.2 k = v.2.2.2 k) → (∀ j, j < i → w.2.2.2 12 j = v.2.2.2 10 j ∧ w.2.1 13 j = v.2.1 11 j) → f_R_assemble_91 post (k + 1) w (nI i) := by
    intro k
    induction k with
    | zero =>
      intro i w hi g1 g2 g3 g4
      have : i = lb.length := by omega
      subst this
      rw [f_R_assemble_91, g1 16, t2]
      refine b_t (by rw [q_le (by omega) (by omega)]; omega) ?_
      have := h w g1 g2 g3 g4
      rw [← g1 18] at this
      exact this
    | succ k ih =>
      intro i w hi g1 g2 g3 g4
      rw [f_R_assemble_91, g1 16, t2]
      refine b_f (by rw [q_le (by omega) (by omega)]; omega) ⟨by rw [q_in (by omega)]; omega, by rw [q_in (by omega)]; omega, ?_⟩
      simp only [nm]
      refine ⟨by rw [q_in (by omega)]; omega, by rw [q_in (by omega)]; omega, ?_⟩
      rw [q_cl (by omega), show nI i + 1 = nI (i + 1) from q_add i 1]
      refine ih (i + 1) _ (by omega) (fun k => g1 k) (fun k hk => ?_) (fun k hk => ?_) (fun j hj => ?_)
      · rw [sA_2, if_neg hk, sB_2]; exact g2 k hk
      · show (sB w 12 i _).2.2.2 k = _
        rw [sB_4, if_neg hk]; exact g3 k hk
      · have e1 : ∀ x y : Int32, ∀ z : Int64, (sA (sB w 12 i z) 13 i x).2.2.2 12 j = if j = i then z else w.2.2.2 12 j := by
          intro x y z
          show (sB w 12 i z).2.2.2 12 j = _
          rw [sB_4, if_pos rfl, uL_at]
        have e2 : ∀ x : Int32, ∀ z : Int64, (sA (sB w 12 i z) 13 i x).2.1 13 j = if j = i then x else w.2.1 13 j := by
          intro x z
          rw [sA_2, if_pos rfl, u_at]; rfl
        rw [e1 _ 0, e2]
        by_cases c : j = i
        · rw [if_pos c, if_pos c, c]
          refine ⟨by rw [g3 10 (by omega)], ?_⟩
          show w.2.1 11 i = _
          rw [g2 11 (by omega)]
        · rw [if_neg c, if_neg c]; exact g4 j (by omega)
  exact ⟨lb.length + 1, L lb.length 0 v (by omega) (fun _ => rfl) (fun _ _ => rfl) (fun _ _ => rfl) (fun j hj => absurd hj (by omega))⟩
theorem r_58 {v : SS} {ws : Ws} {post : Int32 → SS → Prop} (hM : MdR v ws) (hw : ws.length ≤ 3000) (ho : WsOK ws) : ∀ k i M, i + k = ws.length → (∃ n9, f_R_assemble_91 post n9 (setM v 1 (putW M (ws.drop i))) 0) → f_R_assemble_58 post (k + 1) (setM v 1 M) (nI i) := by
  obtain ⟨m2, m3⟩ := hM
  intro k
  induction k with
  | zero =>
    intro i M hi h
    rw [List.drop_of_length_le (by omega)] at h
    rw [f_R_assemble_58]
    exact b_t (by show v.1 18 ≤ nI i; rw [m2, q_le (by omega) (by omega)]; omega) h
  | succ k ih =>
    intro i M hi h
    rw [putW_d (by omega)] at h
    obtain ⟨o1, o2⟩ := ho.at (i := i) (by omega)
    obtain ⟨a1, a2⟩ := m3 i (by omega)
    rw [f_R_assemble_58]
    refine b_f (by show ¬ v.1 18 ≤ nI i; rw [m2, q_le (by omega) (by omega)]; omega) ⟨by rw [q_in (by omega)]; omega, by rw [q_in (by omega)]; omega, ?_⟩
    show vp_in (v.2.1 14 (nI i).toNatClampNeg) 32768 ∧ nm (sA (setM v 1 M) 1 (v.2.1 14 (nI i).toNatClampNeg).toNatClampNeg (v.2.1 15 (nI i).toNatClampNeg)) _
    rw [q_cl (by omega), a1, a2]
    simp only [nm]
    refine ⟨by rw [q_in (by omega)]; exact o1, ?_⟩
    rw [q_cl (by omega), sA_M, setM_M, setM_at, show nI i + 1 = nI (i + 1) from q_add i 1]
    exact ih (i + 1) _ (by omega) h
theorem rel_asm {B : Nat} {σ τ u v : SS} (hR : RelB B σ τ) (c1 : ∀ k, k < 24 ∨ k = 39 → u.1 k = σ.1 k) (c2 : ∀ k, k = 3 ∨ k = 5 ∨ k = 7 ∨ k = 24 → u.2.1 k = σ.2.1 k) (r1 : ∀ k, k < 12 ∨ k = 28 → v.1 k = τ.1 k) (r2 : ∀ k, (2 ≤ k ∧ k ≤ 8) ∨ k = 18 → v.2.1 k = τ.2.1 k) (m1 : u.2.1 2 = v.2.1 1) (m2 : ∀ j, W16 (u.2.1 2 j)) (t1 : u.1 34 = nI 0) (t2 : v.1 12 = nI 0) (f : RFlt u v) (kp : RKept u v) : RelB B u v := by
  obtain ⟨⟨_, _, h3, h4⟩, hg, hp, hl, hi, hd, ht, hpp, hx, hf, hk, hT⟩ := hR
  refine ⟨⟨m1, m2, ?_, ?_⟩, ?_, ?_, ?_, ?_, ?_, ?_, ?_, ⟨0, by omega, t1, t2, fun i hi => absurd hi (by omega)⟩, f, kp, ?_⟩
  · rw [c2 3 (by omega), r2 2 (by omega)]; exact h3
  · rw [c2 3 (by omega)]; exact h4
  · unfold RReg at hg ⊢
    rw [c1 0 (by omega), c1 2 (by omega), c1 3 (by omega), c1 4 (by omega), c1 7 (by omega), c1 8 (by omega), r1 0 (by omega), r1 2 (by omega), r1 5 (by omega), r1 3 (by omega), r1 7 (by omega), r1 11 (by omega)]
    exact hg
  · unfold RPc at hp ⊢
    rw [c1 1 (by omega), r1 1 (by omega)]; exact hp
  · unfold RLet at hl ⊢
    rw [c1 5 (by omega), r1 4 (by omega)]; exact hl
  · unfold RIns at hi ⊢
    rw [c1 6 (by omega), r1 6 (by omega)]; exact hi
  · unfold RDev at hd ⊢
    rw [c1 9 (by omega), c1 10 (by omega), c1 11 (by omega), c1 12 (by omega), c1 15 (by omega), c1 16 (by omega), c1 17 (by omega), c1 18 (by omega), c1 20 (by omega), c1 21 (by omega), c1 22 (by omega), c1 23 (by omega), r2 3 (by omega), r2 4 (by omega), r2 5 (by omega), r2 6 (by omega)]
    exact hd
  · unfold RTape at ht ⊢
    rw [c1 13 (by omega), c1 14 (by omega), r1 9 (by omega), c2 5 (by omega), r2 7 (by omega)]
    exact ht
  · unfold RPap at hpp ⊢
    rw [c1 19 (by omega), r1 10 (by omega), c2 7 (by omega), r2 8 (by omega)]
    exact hpp
  · unfold RTell at hT ⊢
    rw [c1 39 (by omega), r1 28 (by omega), c2 24 (by omega), r2 18 (by omega)]
    exact hT
theorem rlab {n m : Int32} {kC : Nat → Int64} {pC : Nat → Int32} {kR : Nat → Int64} {pR : Nat → Int32} {lb : Lb} {τ : SS} (h : LbT n kC pC lb) (g : LbR τ lb) (hm : m = nI lb.length) (hk : ∀ j, j < lb.length → kR j = τ.2.2.2 10 j ∧ pR j = τ.2.1 11 j) : RLab n kC pC m kR pR := by
  obtain ⟨a1, a2, a3⟩ := h
  obtain ⟨b1, b2, b3⟩ := g
  refine ⟨lb.length, a1, a2, hm, fun i hi => ?_⟩
  obtain ⟨x1, x2, x3, x4⟩ := a3 i hi
  obtain ⟨_, _, y3, y4⟩ := b3 i hi
  obtain ⟨z1, z2⟩ := hk i hi
  exact ⟨⟨_, x1, x3, by rw [z1]; exact y3⟩, by rw [z2, y4]; exact x4⟩
