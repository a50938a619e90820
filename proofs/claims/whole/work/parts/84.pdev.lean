/-! the pure side: devices -/
def FrC (σ u : SS) : Prop := (∀ k, 24 ≤ k → u.1 k = σ.1 k) ∧ (∀ k, 8 ≤ k → u.2.1 k = σ.2.1 k) ∧ u.2.2 = σ.2.2
def FrR (τ v : SS) : Prop := (∀ k, 12 ≤ k → v.1 k = τ.1 k) ∧ (∀ k, 9 ≤ k → v.2.1 k = τ.2.1 k) ∧ v.2.2 = τ.2.2
theorem FrC.refl (σ : SS) : FrC σ σ := ⟨fun _ _ => rfl, fun _ _ => rfl, rfl⟩
theorem FrR.refl (σ : SS) : FrR σ σ := ⟨fun _ _ => rfl, fun _ _ => rfl, rfl⟩
theorem FrC.trans {a b c : SS} (h : FrC a b) (g : FrC b c) : FrC a c := ⟨fun k hk => (g.1 k hk).trans (h.1 k hk), fun k hk => (g.2.1 k hk).trans (h.2.1 k hk), g.2.2.trans h.2.2⟩
theorem FrR.trans {a b c : SS} (h : FrR a b) (g : FrR b c) : FrR a c := ⟨fun k hk => (g.1 k hk).trans (h.1 k hk), fun k hk => (g.2.1 k hk).trans (h.2.1 k hk), g.2.2.trans h.2.2⟩
theorem FrC.sI {a b : SS} (h : FrC a b) {k : Nat} (hk : k < 24) (v : Int32) : FrC a (sI b k v) := ⟨fun j hj => by rw [sI_1, if_neg (by omega)]; exact h.1 j hj, h.2.1, h.2.2⟩
theorem FrR.sI {a b : SS} (h : FrR a b) {k : Nat} (hk : k < 12) (v : Int32) : FrR a (sI b k v) := ⟨fun j hj => by rw [sI_1, if_neg (by omega)]; exact h.1 j hj, h.2.1, h.2.2⟩
theorem FrC.sA {a b : SS} (h : FrC a b) {k : Nat} (hk : k < 8) (i : Nat) (v : Int32) : FrC a (sA b k i v) := ⟨h.1, fun j hj => by rw [sA_2, if_neg (by omega)]; exact h.2.1 j hj, h.2.2⟩
theorem FrR.sA {a b : SS} (h : FrR a b) {k : Nat} (hk : k < 9) (i : Nat) (v : Int32) : FrR a (sA b k i v) := ⟨h.1, fun j hj => by rw [sA_2, if_neg (by omega)]; exact h.2.1 j hj, h.2.2⟩
theorem FrC.sM {a b : SS} (h : FrC a b) {k : Nat} (hk : k < 8) (f : Nat → Int32) : FrC a (setM b k f) := ⟨h.1, fun j hj => by show (if j = k then f else b.2.1 j) = _; rw [if_neg (by omega)]; exact h.2.1 j hj, h.2.2⟩
theorem FrR.sM {a b : SS} (h : FrR a b) {k : Nat} (hk : k < 9) (f : Nat → Int32) : FrR a (setM b k f) := ⟨h.1, fun j hj => by show (if j = k then f else b.2.1 j) = _; rw [if_neg (by omega)]; exact h.2.1 j hj, h.2.2⟩
def RM0 (B : Nat) (σ τ : SS) : Prop := RMem σ τ ∧ RReg σ τ ∧ RDev σ τ ∧ RTape σ τ ∧ RPap B σ τ
theorem W16.mk {n : Nat} (h : n < 65536) : W16 (nI n) := ⟨n, h, rfl⟩
theorem bz_N {x : Int32} (h : bz x) : ∃ n, n ≤ 1 ∧ x = nI n := by
  rcases h with rfl | rfl
  · exact ⟨0, by omega, rfl⟩
  · exact ⟨1, by omega, rfl⟩
theorem bz_of {n : Nat} (h : n ≤ 1) : bz (nI n) := by
  rcases Nat.le_one_iff_eq_zero_or_eq_one.mp h with rfl | rfl
  · exact Or.inl rfl
  · exact Or.inr rfl
theorem R0_acc {B i x : Nat} {σ τ : SS} (h : RM0 B σ τ) (hx : x < 65536) : RM0 B (sA σ 3 i (nI x)) (sA τ 2 i (nI x)) := by
  obtain ⟨⟨m1, m2, m3, m4⟩, h2⟩ := h
  refine ⟨⟨m1, m2, ?_, ?_⟩, h2⟩
  · show upd (σ.2.1 3) i (nI x) = upd (τ.2.1 2) i (nI x)
    rw [m3]
  · exact upd_W m4 i x hx
theorem R0_mem {B : Nat} {f : Nat → Int32} {σ τ : SS} (h : RM0 B σ τ) (hf : ∀ j, W16 (f j)) : RM0 B (setM σ 2 f) (setM τ 1 f) := by
  obtain ⟨⟨m1, m2, m3, m4⟩, h2⟩ := h
  exact ⟨⟨rfl, hf, m3, m4⟩, h2⟩
theorem R0_ion {B b : Nat} {σ τ : SS} (h : RM0 B σ τ) (hb : b ≤ 1) : RM0 B (sI σ 4 (nI b)) (sI τ 3 (nI b)) := by
  obtain ⟨m, ⟨a1, a2, a3, a4, a5, a6, a7, a8, a9⟩, h2⟩ := h
  exact ⟨m, ⟨a1, a2, a3, a4, a5, a6, rfl, bz_of hb, a9⟩, h2⟩
theorem R0_mask {B b : Nat} {σ τ : SS} (h : RM0 B σ τ) (hb : b < 8) : RM0 B (sI σ 3 (nI b)) (sI τ 5 (nI b)) := by
  obtain ⟨m, ⟨a1, a2, a3, a4, a5, a6, a7⟩, h2⟩ := h
  exact ⟨m, ⟨a1, a2, a3, a4, rfl, ⟨b, hb, rfl⟩, a7⟩, h2⟩
theorem R0_car {B b : Nat} {σ τ : SS} (h : RM0 B σ τ) (hb : b ≤ 1) : RM0 B (sI σ 0 (nI b)) (sI τ 0 (nI b)) := by
  obtain ⟨m, ⟨a1, a2, a3⟩, h2⟩ := h
  exact ⟨m, ⟨rfl, bz_of hb, a3⟩, h2⟩
theorem R0_end {B : Nat} {σ τ : SS} (x : Int32) (h : RM0 B σ τ) : RM0 B (sI σ 8 x) (sI τ 11 x) := by
  obtain ⟨m, ⟨a1, a2, a3, a4, a5, a6, a7, a8, a9, a10⟩, h2⟩ := h
  exact ⟨m, ⟨a1, a2, a3, a4, a5, a6, a7, a8, a9, rfl⟩, h2⟩
theorem R0_int {B : Nat} {σ τ : SS} (x : Int32) (h : RM0 B σ τ) : RM0 B (sI σ 7 x) (sI τ 7 x) := by
  obtain ⟨m, ⟨a1, a2, a3, a4, a5, a6, a7, a8, a9, a10⟩, h2⟩ := h
  exact ⟨m, ⟨a1, a2, a3, a4, a5, a6, a7, a8, rfl, a10⟩, h2⟩
/-- what is no part of it: pc, letIn, instructions; justIon, lost -/
theorem R0_x {B : Nat} {σ τ : SS} (h : RM0 B σ τ) (x : Int32) : RM0 B (sI σ 1 x) τ ∧ RM0 B (sI σ 5 x) τ ∧ RM0 B (sI σ 6 x) τ ∧ RM0 B σ (sI τ 1 x) ∧ RM0 B σ (sI τ 4 x) ∧ RM0 B σ (sI τ 6 x) ∧ RM0 B σ (sI τ 8 x) := ⟨h, h, h, h, h, h, h⟩
theorem R0_held {B x : Nat} {σ τ : SS} (h : RM0 B σ τ) (hx : x < 65536) : RM0 B (sI σ 15 (nI x)) (sA τ 3 1 (nI x)) := by
  obtain ⟨m, r, ⟨d0, ⟨e1, e2, e3⟩, d2⟩, h2⟩ := h
  exact ⟨m, r, ⟨d0, ⟨rfl, W16.mk hx, e3⟩, d2⟩, h2⟩
theorem nar0 : vp_nar .boolean (nI 0) = nI 0 := by decide
theorem nar1 : vp_nar .boolean (nI 1) = nI 1 := by decide
/-- busy and done of a device, and its ticks in the reference -/
theorem R0_dv0 {B b d : Nat} {σ τ : SS} (h : RM0 B σ τ) (hb : b ≤ 1) (hd : d ≤ 1) (t t' : Int32) (ht : b = 1 → t = t') : RM0 B (sI (sI (sI σ 10 (nI b)) 11 (nI d)) 12 t) (sA (sA (sA τ 4 0 (nI b)) 5 0 (nI d)) 6 0 t') := by
  obtain ⟨m, r, ⟨⟨e1, e2, e3, e4, e5, e6, e7⟩, d1, d2⟩, h2⟩ := h
  exact ⟨m, r, ⟨⟨e1, e2, rfl, bz_of hb, rfl, bz_of hd, fun z => ht (by rcases Nat.le_one_iff_eq_zero_or_eq_one.mp hb with rfl | rfl; exact absurd rfl z; rfl)⟩, d1, d2⟩, h2⟩
theorem R0_dv1 {B b d : Nat} {σ τ : SS} (h : RM0 B σ τ) (hb : b ≤ 1) (hd : d ≤ 1) (t t' : Int32) (ht : b = 1 → t = t') : RM0 B (sI (sI (sI σ 16 (nI b)) 17 (nI d)) 18 t) (sA (sA (sA τ 4 1 (nI b)) 5 1 (nI d)) 6 1 t') := by
  obtain ⟨m, r, ⟨d1, ⟨e1, e2, e3, e4, e5, e6, e7⟩, d2⟩, h2⟩ := h
  exact ⟨m, r, ⟨d1, ⟨e1, e2, rfl, bz_of hb, rfl, bz_of hd, fun z => ht (by rcases Nat.le_one_iff_eq_zero_or_eq_one.mp hb with rfl | rfl; exact absurd rfl z; rfl)⟩, d2⟩, h2⟩
theorem R0_dv2 {B b d : Nat} {σ τ : SS} (h : RM0 B σ τ) (hb : b ≤ 1) (hd : d ≤ 1) (t t' : Int32) (ht : b = 1 → t = t') : RM0 B (sI (sI (sI σ 21 (nI b)) 22 (nI d)) 23 t) (sA (sA (sA τ 4 2 (nI b)) 5 2 (nI d)) 6 2 t') := by
  obtain ⟨m, r, ⟨d1, d2, ⟨e1, e2, e3, e4, e5, e6, e7⟩⟩, h2⟩ := h
  exact ⟨m, r, ⟨d1, d2, ⟨e1, e2, rfl, bz_of hb, rfl, bz_of hd, fun z => ht (by rcases Nat.le_one_iff_eq_zero_or_eq_one.mp hb with rfl | rfl; exact absurd rfl z; rfl)⟩⟩, h2⟩
theorem sI_self (σ : SS) (k : Nat) : sI σ k (σ.1 k) = σ := by
  unfold sI
  obtain ⟨a, b⟩ := σ
  congr 1
  exact upd_self a k
theorem sI_c {j k : Nat} (σ : SS) (v w : Int32) (h : j ≠ k) : sI (sI σ k v) j w = sI (sI σ j w) k v := by
  unfold sI
  congr 1
  funext i
  simp only [u_at]
  by_cases h1 : i = j <;> by_cases h2 : i = k <;> simp [h1, h2] <;> first | omega | (intro z; omega)
theorem sI_sI (σ : SS) (k : Nat) (v w : Int32) : sI (sI σ k v) k w = sI σ k w := by
  unfold sI
  congr 1
  funext i
  simp only [u_at]
  by_cases h1 : i = k <;> simp [h1]
/-- a device that asks -/
def askN (d0 d1 d2 m : Nat) : Nat := if d0 = 1 ∧ m / 2 % 2 = 0 then 8 else if d1 = 1 ∧ m % 2 = 0 then 9 else if d2 = 1 ∧ m / 4 % 2 = 0 then 10 else 0
theorem c_asking {σ : SS} {d0 d1 d2 m : Nat} {post : Int32 → SS → Prop} (h0 : d0 ≤ 1) (h1 : d1 ≤ 1) (h2 : d2 ≤ 1) (hm : m < 8) (v0 : σ.1 11 = nI d0) (v1 : σ.1 17 = nI d1) (v2 : σ.1 22 = nI d2) (vm : σ.1 3 = nI m) (h : post (nI (askN d0 d1 d2 m)) σ) : f_M_askingDevice post σ := by
  refine ⟨4, ?_⟩
  have q0 : d0 = 0 ∨ (d0 = 1 ∧ m / 2 % 2 = 0) ∨ (d0 = 1 ∧ m / 2 % 2 = 1) := by omega
  have q1 : d1 = 0 ∨ (d1 = 1 ∧ m % 2 = 0) ∨ (d1 = 1 ∧ m % 2 = 1) := by omega
  have q2 : d2 = 0 ∨ (d2 = 1 ∧ m / 4 % 2 = 0) ∨ (d2 = 1 ∧ m / 4 % 2 = 1) := by omega
  unfold askN at h
  simp only [f_M_askingDevice_2, f_D_asks_4, f_D_asks_6, f_D_asks_8]
  rcases q0 with a | ⟨a, a'⟩ | ⟨a, a'⟩ <;> rcases q1 with b | ⟨b, b'⟩ | ⟨b, b'⟩ <;> rcases q2 with c | ⟨c, c'⟩ | ⟨c, c'⟩ <;> simp (disch := omega) only [nm, q_lit, q_add, q_sub, q_subN, q_n1, q_mul, q_div, q_nm, q_and, q_or, q_xor, q_shr, q_shl, q_cl, q_a1, q_a3, q_a7, q_a31, q_a63, q_a255, q_a15, q_a16, q_a17, q_a2, q_a4, q_a8, q_a1024, q_a65536, Nat.reduceMod, Nat.reducePow, Nat.reduceDiv, Nat.reduceMul, Nat.reduceAdd, Nat.reduceSub, Nat.reduceEqDiff, q_ltT, q_ltF, q_leT, q_leF, q_eqT, q_eqF, q_inT, q_bz0, q_bz1, b_T, b_F, true_and, and_true, if_true, if_false, *] at h ⊢ <;> exact h
theorem r_asking {σ : SS} {d0 d1 d2 m : Nat} {post : Int32 → SS → Prop} (h0 : d0 ≤ 1) (h1 : d1 ≤ 1) (h2 : d2 ≤ 1) (hm : m < 8) (v0 : σ.2.1 5 0 = nI d0) (v1 : σ.2.1 5 1 = nI d1) (v2 : σ.2.1 5 2 = nI d2) (vm : σ.1 5 = nI m) (h : post (nI (askN d0 d1 d2 m)) σ) : f_R_asking post σ := by
  refine ⟨4, ?_⟩
  have q0 : d0 = 0 ∨ (d0 = 1 ∧ m / 2 % 2 = 0) ∨ (d0 = 1 ∧ m / 2 % 2 = 1) := by omega
  have q1 : d1 = 0 ∨ (d1 = 1 ∧ m % 2 = 0) ∨ (d1 = 1 ∧ m % 2 = 1) := by omega
  have q2 : d2 = 0 ∨ (d2 = 1 ∧ m / 4 % 2 = 0) ∨ (d2 = 1 ∧ m / 4 % 2 = 1) := by omega
  unfold askN at h
  simp only [f_R_asking_2, f_R_asks, f_R_asks_18]
  rcases q0 with a | ⟨a, a'⟩ | ⟨a, a'⟩ <;> rcases q1 with b | ⟨b, b'⟩ | ⟨b, b'⟩ <;> rcases q2 with c | ⟨c, c'⟩ | ⟨c, c'⟩ <;> simp (disch := omega) only [nm, q_lit, q_add, q_sub, q_subN, q_n1, q_mul, q_div, q_nm, q_and, q_or, q_xor, q_shr, q_shl, q_cl, q_a1, q_a3, q_a7, q_a31, q_a63, q_a255, q_a15, q_a16, q_a17, q_a2, q_a4, q_a8, q_a1024, q_a65536, Nat.reduceMod, Nat.reducePow, Nat.reduceDiv, Nat.reduceMul, Nat.reduceAdd, Nat.reduceSub, Nat.reduceEqDiff, q_ltT, q_ltF, q_leT, q_leF, q_eqT, q_eqF, q_inT, q_bz0, q_bz1, b_T, b_F, true_and, and_true, if_true, if_false, Nat.div_one, *] at h ⊢ <;> exact h
