/-! the pure side: the assembler behind a fault; tables of labels -/
/-- the assembler's own numbers keep their bounds -/
def InvC (σ : SS) : Prop := (∃ cnt a, σ.1 35 = nI cnt ∧ cnt ≤ 6001 ∧ σ.1 29 = nI a ∧ a ≤ cnt) ∧ (∃ m, m ≤ 3000 ∧ σ.1 26 = nI m) ∧ ((σ.1 25 = nI 0 ∧ ∃ n, n ≤ 200 ∧ σ.1 37 = nI n) ∨ (σ.1 25 = nI 1 ∧ ∃ n, n ≤ 200 ∧ σ.1 38 = nI n))
/-- what the assembler leaves alone while it reads -/
def FrA (σ u : SS) : Prop := (∀ k, k ≠ 26 → k ≠ 27 → k ≠ 28 → k ≠ 29 → k ≠ 30 → k ≠ 32 → k ≠ 33 → k ≠ 37 → k ≠ 38 → u.1 k = σ.1 k) ∧ (∀ k, k ≠ 16 → k ≠ 19 → k ≠ 20 → k ≠ 21 → k ≠ 22 → u.2.1 k = σ.2.1 k) ∧ u.2.2.1 = σ.2.2.1 ∧ (∀ k, k ≠ 15 → k ≠ 18 → u.2.2.2 k = σ.2.2.2 k) ∧ (σ.1 25 = nI 0 → u.1 38 = σ.1 38 ∧ u.2.1 19 = σ.2.1 19 ∧ u.2.2.2 18 = σ.2.2.2 18) ∧ (σ.1 25 = nI 1 → u.1 37 = σ.1 37 ∧ u.2.1 16 = σ.2.1 16 ∧ u.2.2.2 15 = σ.2.2.2 15)
theorem FrA.refl (σ : SS) : FrA σ σ := ⟨fun _ _ _ _ _ _ _ _ _ _ => rfl, fun _ _ _ _ _ _ => rfl, rfl, fun _ _ _ => rfl, fun _ => ⟨rfl, rfl, rfl⟩, fun _ => ⟨rfl, rfl, rfl⟩⟩
theorem FrA.s25 {a b : SS} (h : FrA a b) : b.1 25 = a.1 25 := h.1 25 (by omega) (by omega) (by omega) (by omega) (by omega) (by omega) (by omega) (by omega) (by omega)
theorem FrA.trans {a b c : SS} (h : FrA a b) (g : FrA b c) : FrA a c := by
  have e := h.s25
  obtain ⟨h1, h2, h3, h4, h5, h6⟩ := h
  obtain ⟨g1, g2, g3, g4, g5, g6⟩ := g
  refine ⟨fun k a1 a2 a3 a4 a5 a6 a7 a8 a9 => (g1 k a1 a2 a3 a4 a5 a6 a7 a8 a9).trans (h1 k a1 a2 a3 a4 a5 a6 a7 a8 a9), fun k a1 a2 a3 a4 a5 => (g2 k a1 a2 a3 a4 a5).trans (h2 k a1 a2 a3 a4 a5), g3.trans h3, fun k a1 a2 => (g4 k a1 a2).trans (h4 k a1 a2), fun z => ?_, fun z => ?_⟩
  · obtain ⟨x1, x2, x3⟩ := h5 z
    obtain ⟨y1, y2, y3⟩ := g5 (e.trans z)
    exact ⟨y1.trans x1, y2.trans x2, y3.trans x3⟩
  · obtain ⟨x1, x2, x3⟩ := h6 z
    obtain ⟨y1, y2, y3⟩ := g6 (e.trans z)
    exact ⟨y1.trans x1, y2.trans x2, y3.trans x3⟩
theorem FrA.sI {a b : SS} (h : FrA a b) {k : Nat} (hk : k = 26 ∨ k = 27 ∨ k = 28 ∨ k = 29 ∨ k = 30 ∨ k = 32 ∨ k = 33) (v : Int32) : FrA a (sI b k v) :=
  ⟨fun j a1 a2 a3 a4 a5 a6 a7 a8 a9 => by rw [sI_1, if_neg (by omega)]; exact h.1 j a1 a2 a3 a4 a5 a6 a7 a8 a9, h.2.1, h.2.2.1, h.2.2.2.1, fun z => by rw [sI_1, if_neg (by omega)]; exact h.2.2.2.2.1 z, fun z => by rw [sI_1, if_neg (by omega)]; exact h.2.2.2.2.2 z⟩
theorem FrA.sA {a b : SS} (h : FrA a b) {k : Nat} (hk : k = 20 ∨ k = 21 ∨ k = 22) (i : Nat) (v : Int32) : FrA a (sA b k i v) :=
  ⟨h.1, fun j a1 a2 a3 a4 a5 => by rw [sA_2, if_neg (by omega)]; exact h.2.1 j a1 a2 a3 a4 a5, h.2.2.1, h.2.2.2.1, fun z => by rw [sA_2, if_neg (by omega)]; exact h.2.2.2.2.1 z, fun z => by rw [sA_2, if_neg (by omega)]; exact h.2.2.2.2.2 z⟩
/-- behind a fault -/
def Saf (σ u : SS) : Prop := InvC u ∧ u.1 32 = σ.1 32 ∧ u.1 33 = σ.1 33 ∧ FrA σ u
theorem Saf.trans {a b c : SS} (h : Saf a b) (g : Saf b c) : Saf a c := ⟨g.1, g.2.1.trans h.2.1, g.2.2.1.trans h.2.2.1, h.2.2.2.trans g.2.2.2⟩
theorem Saf.refl {σ : SS} (h : InvC σ) : Saf σ σ := ⟨h, rfl, rfl, FrA.refl _⟩
theorem Saf.sI {a b : SS} (h : Saf a b) {k : Nat} (hk : k = 27 ∨ k = 28 ∨ k = 30) (v : Int32) : Saf a (sI b k v) := by
  have hk' : k = 26 ∨ k = 27 ∨ k = 28 ∨ k = 29 ∨ k = 30 ∨ k = 32 ∨ k = 33 := by omega
  have n35 : ¬ 35 = k := by omega
  have n29 : ¬ 29 = k := by omega
  have n26 : ¬ 26 = k := by omega
  have n25 : ¬ 25 = k := by omega
  have n37 : ¬ 37 = k := by omega
  have n38 : ¬ 38 = k := by omega
  have n32 : ¬ 32 = k := by omega
  have n33 : ¬ 33 = k := by omega
  obtain ⟨⟨⟨cnt, x, i1, i2, i3, i4⟩, ⟨m, m1, m2⟩, i5⟩, h2, h3, h4⟩ := h
  refine ⟨⟨⟨cnt, x, ?_, i2, ?_, i4⟩, ⟨m, m1, ?_⟩, ?_⟩, ?_, ?_, h4.sI hk' v⟩
  · rw [sI_1, if_neg n35]; exact i1
  · rw [sI_1, if_neg n29]; exact i3
  · rw [sI_1, if_neg n26]; exact m2
  · rw [sI_1, sI_1, sI_1, if_neg n25, if_neg n37, if_neg n38]; exact i5
  · rw [sI_1, if_neg n32]; exact h2
  · rw [sI_1, if_neg n33]; exact h3
theorem Saf.sA {a b : SS} (h : Saf a b) {k : Nat} (hk : k = 20 ∨ k = 21 ∨ k = 22) (i : Nat) (v : Int32) : Saf a (sA b k i v) := ⟨h.1, h.2.1, h.2.2.1, h.2.2.2.sA hk i v⟩
theorem s_comp {σ : SS} {f : Nat} {post : SS → Prop} (hf : σ.1 32 ≠ nI 0) (h : post σ) : f_A_complain post σ (nI f) := by
  simp only [f_A_complain]
  exact b_f hf h
theorem s_kind {σ : SS} {post : Int32 → SS → Prop} (hi : InvC σ) (h : ∀ k, k < 65536 → (k ≠ 10 → ∃ cnt a, σ.1 35 = nI cnt ∧ cnt ≤ 6001 ∧ σ.1 29 = nI a ∧ a < cnt) → post (nI k) σ) : f_I_kindAt post σ (σ.1 29) := by
  obtain ⟨⟨cnt, a, i1, i2, i3, i4⟩, _⟩ := hi
  simp only [f_I_kindAt]
  rw [i3, i1]
  refine b_f (by rw [q_lit, q_lt (by omega) (by omega)]; omega) ?_
  by_cases c : cnt ≤ a
  · exact b_t (by rw [q_le (by omega) (by omega)]; exact c) (h 10 (by omega) (fun z => absurd rfl z))
  · refine b_f (by rw [q_le (by omega) (by omega)]; exact c) ⟨by rw [q_in (by omega)]; omega, ?_⟩
    obtain ⟨n, hn, e⟩ := n_of ((σ.2.2.2 13 (nI a).toNatClampNeg).toInt32)
    rw [e, q_lit, q_and, q_a16]
    exact h _ (by omega) (fun _ => ⟨cnt, a, i1, i2, i3, by omega⟩)
theorem s_look {σ : SS} {post : Int32 → SS → Prop} (hf : σ.1 32 ≠ nI 0) (hi : InvC σ) (h : ∀ k, k < 65536 → (k ≠ 10 → ∃ cnt a, σ.1 35 = nI cnt ∧ cnt ≤ 6001 ∧ σ.1 29 = nI a ∧ a < cnt) → post (nI k) σ) : f_A_look post σ := by
  simp only [f_A_look]
  refine s_kind hi (fun k hk hk2 => ?_)
  exact b_c (fun _ => s_comp hf (h k hk hk2)) (fun _ => h k hk hk2)
theorem s_adv {σ : SS} (hi : InvC σ) (h : ∃ cnt a, σ.1 35 = nI cnt ∧ cnt ≤ 6001 ∧ σ.1 29 = nI a ∧ a < cnt) : Saf σ (sI σ 29 (σ.1 29 + nI 1)) := by
  obtain ⟨cnt, a, i1, i2, i3, i4⟩ := h
  obtain ⟨_, hm, hs⟩ := hi
  refine ⟨⟨⟨cnt, a + 1, i1, i2, ?_, by omega⟩, hm, hs⟩, rfl, rfl, (FrA.refl _).sI (by omega) _⟩
  show σ.1 29 + nI 1 = nI (a + 1)
  rw [i3, q_add]
theorem s_takes {σ : SS} {c : Nat} {post : Int32 → SS → Prop} (hf : σ.1 32 ≠ nI 0) (hi : InvC σ) (hc : c ≠ 10) (hc2 : c < 65536) (h : ∀ r u, (r = nI 0 ∨ r = nI 1) → Saf σ u → post r u) : f_A_takes post σ (nI c) := by
  simp only [f_A_takes]
  refine s_look hf hi (fun k hk hk2 => b_c (fun z => ?_) (fun _ => h _ _ (Or.inl rfl) (Saf.refl hi)))
  rw [q_eq (by omega) (by omega)] at z
  exact h _ _ (Or.inr rfl) (s_adv hi (hk2 (by omega)))
theorem s_name {σ : SS} {post : Int64 → SS → Prop} (hi : InvC σ) (h : ∀ x, post x σ) : f_I_nameAt post σ (σ.1 29) := by
  obtain ⟨⟨cnt, a, i1, i2, i3, i4⟩, _⟩ := hi
  simp only [f_I_nameAt]
  rw [i3, i1]
  refine b_f (by rw [q_lit, q_lt (by omega) (by omega)]; omega) ?_
  by_cases c : cnt ≤ a
  · exact b_t (by rw [q_le (by omega) (by omega)]; exact c) (h _)
  · exact b_f (by rw [q_le (by omega) (by omega)]; exact c) ⟨by rw [q_in (by omega)]; omega, h _⟩
theorem s_f14 {σ : SS} {x : Int64} {n : Nat} {post : Int32 → SS → Prop} (hn : n ≤ 200) (hv : σ.1 37 = nI n) (h : ∀ r, post r σ) : f_L_find_14 post σ x := by
  have L : ∀ k i, i + k = n → f_L_find_14_2 post (k + 1) σ x (nI i) := by
    intro k
    induction k with
    | zero => intro i hi; rw [f_L_find_14_2, hv]; exact b_t (by rw [q_le (by omega) (by omega)]; omega) (h _)
    | succ k ih =>
      intro i hi
      rw [f_L_find_14_2, hv]
      refine b_f (by rw [q_le (by omega) (by omega)]; omega) ⟨by rw [q_in (by omega)]; omega, b_c (fun _ => ⟨by rw [q_in (by omega)]; omega, h _⟩) (fun _ => ?_)⟩
      simp only [nm]
      rw [show nI i + 1 = nI (i + 1) from q_add i 1]
      exact ih (i + 1) (by omega)
  exact ⟨n + 1, L n 0 (by omega)⟩
theorem s_f17 {σ : SS} {x : Int64} {n : Nat} {post : Int32 → SS → Prop} (hn : n ≤ 200) (hv : σ.1 38 = nI n) (h : ∀ r, post r σ) : f_L_find_17 post σ x := by
  have L : ∀ k i, i + k = n → f_L_find_17_2 post (k + 1) σ x (nI i) := by
    intro k
    induction k with
    | zero => intro i hi; rw [f_L_find_17_2, hv]; exact b_t (by rw [q_le (by omega) (by omega)]; omega) (h _)
    | succ k ih =>
      intro i hi
      rw [f_L_find_17_2, hv]
      refine b_f (by rw [q_le (by omega) (by omega)]; omega) ⟨by rw [q_in (by omega)]; omega, b_c (fun _ => ⟨by rw [q_in (by omega)]; omega, h _⟩) (fun _ => ?_)⟩
      simp only [nm]
      rw [show nI i + 1 = nI (i + 1) from q_add i 1]
      exact ih (i + 1) (by omega)
  exact ⟨n + 1, L n 0 (by omega)⟩
theorem s_giv {σ : SS} {x : Int64} {post : Int32 → SS → Prop} (h : ∀ r, post r σ) : f_G_numberOf post σ x := by
  have L : ∀ k i, i + k = 11 → f_G_numberOf_2 post (k + 1) σ x (nI i) := by
    intro k
    induction k with
    | zero => intro i hi; rw [f_G_numberOf_2]; exact b_t (by rw [q_lit, q_le (by omega) (by omega)]; omega) (h _)
    | succ k ih =>
      intro i hi
      rw [f_G_numberOf_2]
      refine b_f (by rw [q_lit, q_le (by omega) (by omega)]; omega) ⟨by rw [q_in (by omega)]; omega, b_c (fun _ => ⟨by rw [q_in (by omega)]; omega, h _⟩) (fun _ => ?_)⟩
      simp only [nm]
      rw [show nI i + 1 = nI (i + 1) from q_add i 1]
      exact ih (i + 1) (by omega)
  exact ⟨12, L 11 0 (by omega)⟩
theorem s_find {σ : SS} {x : Int64} {post : Int32 → SS → Prop} (hi : InvC σ) (h : ∀ r, post r σ) : br (σ.1 25 = 0) (f_L_find_14 post σ x) (f_L_find_17 post σ x) := by
  obtain ⟨_, _, ⟨b, n, hn, hv⟩ | ⟨b, n, hn, hv⟩⟩ := hi
  · exact b_t b (s_f14 hn hv h)
  · exact b_f (by rw [b]; decide) (s_f17 hn hv h)
theorem s_numberOf {σ : SS} {x : Int64} {post : Int32 → SS → Prop} (hi : InvC σ) (h : ∀ r, post r σ) : f_A_numberOf post σ x := by
  simp only [f_A_numberOf]
  refine b_c (fun _ => h _) (fun _ => s_giv (fun r => b_c (fun _ => s_find hi h) (fun _ => h _)))
theorem s_term {σ : SS} {post : Int32 → SS → Prop} (hf : σ.1 32 ≠ nI 0) (hi : InvC σ) (h : ∀ r u, Saf σ u → post r u) : f_A_readTerm post σ := by
  simp only [f_A_readTerm]
  refine s_look hf hi (fun k hk hk2 => ?_)
  have e67 : ∀ s0, k ≠ 10 → f_A_readTerm_67 post σ s0 := fun s0 z => h _ _ (s_adv hi (hk2 z))
  have e56 : ∀ s0, k ≠ 10 → f_A_readTerm_56 post σ s0 := fun s0 z => b_c (fun _ => s_comp (f := 3) hf (e67 s0 z)) (fun _ => e67 s0 z)
  have e22 : k ≠ 10 → f_A_readTerm_22 post σ (nI k) := fun z => b_c (fun _ => s_name hi (fun x => s_numberOf hi (fun r => e56 r z))) (fun _ => s_name hi (fun x => e56 _ z))
  refine b_c (fun z => ?_) (fun _ => b_c (fun z => ?_) (fun _ => s_comp (f := 2) hf (h _ _ (Saf.refl hi))))
  · rw [q_lit, q_eq (by omega) (by omega)] at z; exact e22 (by omega)
  · rw [q_lit, q_eq (by omega) (by omega)] at z; exact e22 (by omega)
theorem s_expr {σ : SS} {post : Int32 → SS → Prop} (hf : σ.1 32 ≠ nI 0) (hi : InvC σ) (h : ∀ r u, r < 65536 → Saf σ u → post (nI r) u) : f_A_readExpression post σ := by
  have fin : ∀ (x : Int32) u, Saf σ u → post (x &&& 65535) u := by
    intro x u hu
    obtain ⟨n, hn, rfl⟩ := n_of x
    rw [q_lit, q_and, q_a16]
    exact h _ u (by omega) hu
  have L : ∀ k i (x1 x2 : Int32) u, i + k = 6000 → Saf σ u → f_A_readExpression_22 post (k + 1) u x1 x2 (nI i) := by
    intro k
    induction k with
    | zero =>
      intro i x1 x2 u hi hu
      rw [f_A_readExpression_22]
      exact b_t (by rw [q_lit, q_le (by omega) (by omega)]; omega) (fin _ _ hu)
    | succ k ih =>
      intro i x1 x2 u hik hu
      rw [f_A_readExpression_22]
      refine b_f (by rw [q_lit, q_le (by omega) (by omega)]; omega) (s_term (by rw [hu.2.1]; exact hf) hu.1 (fun r v hv => ?_))
      have hv2 := hu.trans hv
      have e48 : ∀ s0 s1 : Int32, f_A_readExpression_48 post (f_A_readExpression_22 post (k + 1)) v (nI i) s0 s1 := by
        intro s0 s1
        simp only [f_A_readExpression_48, nm]
        have e73 : ∀ (r4 : Int32) w, Saf σ w → f_A_readExpression_73 post (f_A_readExpression_22 post (k + 1)) w r4 (s1 + s0) (nI i) := by
          intro r4 w hw
          simp only [f_A_readExpression_73, nm]
          rw [show nI i + 1 = nI (i + 1) from q_add i 1]
          exact ih (i + 1) _ _ w (by omega) hw
        refine s_takes (c := 45) (by rw [hv2.2.1]; exact hf) hv2.1 (by omega) (by omega) (fun r4 w _ hw => b_c (fun _ => ?_) (fun _ => e73 _ _ (hv2.trans hw)))
        have hw2 := hv2.trans hw
        exact s_takes (c := 43) (by rw [hw2.2.1]; exact hf) hw2.1 (by omega) (by omega) (fun r6 y _ hy => b_c (fun _ => fin _ _ (hw2.trans hy)) (fun _ => e73 _ _ (hw2.trans hy)))
      exact b_c (fun _ => e48 _ _) (fun _ => e48 _ _)
  have e18 : ∀ (x1 : Int32) u, Saf σ u → f_A_readExpression_18 post u x1 := fun x1 u hu => ⟨6001, L 6000 0 _ _ u (by omega) hu⟩
  simp only [f_A_readExpression]
  refine s_takes (c := 45) hf hi (by omega) (by omega) (fun r u _ hu => b_c (fun _ => ?_) (fun _ => e18 _ _ hu))
  exact s_takes (c := 43) (by rw [hu.2.1]; exact hf) hu.1 (by omega) (by omega) (fun r6 y _ hy => e18 _ _ (hu.trans hy))
