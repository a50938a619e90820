/-! the pure side: terms and expressions -/
def okT (t : Tk) : Prop := t.1 = 1 ∨ (t.1 = 2 ∧ isN t.2.2) ∨ (t.1 = 3 ∧ t.2.1 < 65536) ∨ sgn t.1
/-- the class at the items of a line -/
def AtC (σ : SS) (ts : List Tk) : Prop := (∀ t ∈ ts, okT t) ∧ ∃ a cnt, σ.1 29 = nI a ∧ σ.1 35 = nI cnt ∧ cnt ≤ 6001 ∧ a + ts.length < cnt ∧ (∀ i, i < ts.length → σ.2.2.2 13 (a + i) = jI (itC (ts.getD i (0, 0, [])))) ∧ σ.2.2.2 13 (a + ts.length) = jI 10
def AdvC (σ u : SS) (ts : List Tk) : Prop := (∃ x, u = sI σ 29 x) ∧ AtC u ts
def FltC (σ : SS) (f : Nat) (u : SS) : Prop := InvC u ∧ u.1 32 = nI f ∧ u.1 33 = σ.1 31 ∧ FrA σ u ∧ 0 < f ∧ f < 8
theorem FltC.ne {σ u : SS} {f : Nat} (h : FltC σ f u) : u.1 32 ≠ nI 0 := by
  obtain ⟨_, h2, _, _, h5, h6⟩ := h
  rw [h2]
  intro z
  rw [q_eq (by omega) (by omega)] at z
  omega
theorem FltC.saf {σ u v : SS} {f : Nat} (h : FltC σ f u) (g : Saf u v) : FltC σ f v := ⟨g.1, g.2.1.trans h.2.1, g.2.2.1.trans h.2.2.1, h.2.2.2.1.trans g.2.2.2, h.2.2.2.2⟩
theorem AdvC.tail {σ : SS} {t : Tk} {r : List Tk} (h : AtC σ (t :: r)) : AdvC σ (sI σ 29 (σ.1 29 + nI 1)) r := by
  obtain ⟨h1, a, cnt, h2, h3, h4, h5, h6, h7⟩ := h
  refine ⟨⟨_, rfl⟩, fun x hx => h1 x (List.mem_cons_of_mem _ hx), a + 1, cnt, ?_, h3, h4, ?_, fun i hi => ?_, ?_⟩
  · show σ.1 29 + nI 1 = nI (a + 1)
    rw [h2, q_add]
  · rw [List.length_cons] at h5; omega
  · have := h6 (i + 1) (by rw [List.length_cons]; omega)
    rw [show a + (i + 1) = a + 1 + i by omega] at this
    exact this
  · rw [List.length_cons, show a + (r.length + 1) = a + 1 + r.length by omega] at h7
    exact h7
theorem AdvC.trans {σ u v : SS} {a b : List Tk} (h : AdvC σ u a) (g : AdvC u v b) : AdvC σ v b := by
  obtain ⟨⟨x, rfl⟩, _⟩ := h
  obtain ⟨⟨y, rfl⟩, g2⟩ := g
  refine ⟨⟨y, ?_⟩, g2⟩
  rw [sI_sI]
theorem AdvC.refl {σ : SS} {ts : List Tk} (h : AtC σ ts) : AdvC σ σ ts := ⟨⟨σ.1 29, (sI_self σ 29).symm⟩, h⟩
theorem AdvC.fr {σ u : SS} {ts : List Tk} (h : AdvC σ u ts) : FrA σ u := by
  obtain ⟨⟨x, rfl⟩, _⟩ := h
  exact (FrA.refl _).sI (by omega) _
theorem AtC.inv {σ : SS} {ts : List Tk} (h : AtC σ ts) (hm : ∃ m, m ≤ 3000 ∧ σ.1 26 = nI m) {lb : Lb} (hL : LbC σ lb) : InvC σ := by
  obtain ⟨_, a, cnt, h2, h3, h4, h5, _⟩ := h
  refine ⟨⟨cnt, a, h3, h4, h2, by omega⟩, hm, ?_⟩
  rcases hL with ⟨b, t1, t2, _⟩ | ⟨b, t1, t2, _⟩
  · exact Or.inl ⟨b, _, t1, t2⟩
  · exact Or.inr ⟨b, _, t1, t2⟩
/-- what the assembler stands on while no fault is -/
def LivC (σ : SS) (lb : Lb) (loc : Nat) : Prop := σ.1 32 = nI 0 ∧ (∃ m, m ≤ 3000 ∧ σ.1 26 = nI m) ∧ LbC σ lb ∧ σ.1 30 = nI loc
theorem LivC.adv {σ u : SS} {lb : Lb} {loc : Nat} {ts : List Tk} (h : LivC σ lb loc) (g : AdvC σ u ts) : LivC u lb loc := by
  obtain ⟨⟨x, rfl⟩, _⟩ := g
  exact h
theorem c_flt {σ : SS} {f : Nat} (hi : InvC σ) (hf : 0 < f ∧ f < 8) : FltC σ f (sI (sI σ 32 (nI f)) 33 (σ.1 31)) := ⟨hi, rfl, rfl, ((FrA.refl _).sI (by omega) _).sI (by omega) _, hf⟩
theorem c_comp {σ : SS} {f : Nat} {post : SS → Prop} (h0 : σ.1 32 = nI 0) (h : post (sI (sI σ 32 (nI f)) 33 (σ.1 31))) : f_A_complain post σ (nI f) := by
  simp only [f_A_complain]
  exact b_t h0 h
theorem kind_e {t : Tk} (h : okT t) : itC t % 65536 = t.1 ∧ itC t < 18446744073709551616 ∧ t.1 < 256 := by
  unfold okT at h
  unfold itC
  rcases h with z | ⟨z, n⟩ | ⟨z, n⟩ | z
  · rw [z, if_neg (by decide), if_neg (by decide)]; exact ⟨by decide, by decide, by decide⟩
  · rw [if_pos z, z]
    have e := nameC_e t.2.2 (by have := n.2.1; omega)
    have l := n.2.1
    have b := isN_64 n
    obtain ⟨m, hm⟩ : ∃ m, 8 - t.2.2.length = m + 2 := ⟨6 - t.2.2.length, by omega⟩
    rw [hm, Nat.pow_add] at e
    have e2 : nameC t.2.2 = nameR 0 t.2.2 * 256 ^ m * 65536 := by rw [e, ← Nat.mul_assoc]
    refine ⟨by omega, by omega, by omega⟩
  · rw [if_neg (by omega), if_pos z, z]
    refine ⟨by omega, by omega, by omega⟩
  · unfold sgn at z
    rw [if_neg (by omega), if_neg (by omega)]
    refine ⟨by omega, by omega, by omega⟩
theorem c_kind {σ : SS} {ts : List Tk} {post : Int32 → SS → Prop} (h : AtC σ ts) (h0 : ts = [] → post (nI 10) σ) (h1 : ∀ t r, ts = t :: r → okT t → post (nI t.1) σ) : f_I_kindAt post σ (σ.1 29) := by
  obtain ⟨g1, a, cnt, g2, g3, g4, g5, g6, g7⟩ := h
  simp only [f_I_kindAt]
  rw [g2, g3]
  refine b_f (by rw [q_lit, q_lt (by omega) (by omega)]; omega) (b_f (by rw [q_le (by omega) (by omega)]; omega) ⟨by rw [q_in (by omega)]; omega, ?_⟩)
  rw [q_cl (by omega)]
  cases ts with
  | nil =>
    rw [List.length_nil, Nat.add_zero] at g7
    rw [g7, j_i, q_lit, q_and, q_a16]
    exact h0 rfl
  | cons t r =>
    have g8 := g6 0 (by simp)
    have ok := g1 t List.mem_cons_self
    rw [Nat.add_zero] at g8
    have e : σ.2.2.2 13 a = jI (itC t) := g8
    rw [e, j_i, q_lit, q_and, q_a16, (kind_e ok).1]
    exact h1 t r rfl ok
theorem c_look {σ : SS} {ts : List Tk} {post : Int32 → SS → Prop} (h : AtC σ ts) (hf : σ.1 32 = nI 0) (h0 : ts = [] → post (nI 10) σ) (h1 : ∀ t r, ts = t :: r → okT t → t.1 ≠ 1 → post (nI t.1) σ) (h2 : ∀ t r, ts = t :: r → t.1 = 1 → post (nI 1) (sI (sI σ 32 (nI 1)) 33 (σ.1 31))) : f_A_look post σ := by
  simp only [f_A_look]
  refine c_kind h (fun z => b_f (by decide) (h0 z)) (fun t r e ok => ?_)
  have kl := (kind_e ok).2.2
  by_cases z : t.1 = 1
  · rw [z]
    exact b_t rfl (c_comp hf (h2 t r e z))
  · exact b_f (by rw [q_lit, q_eq (by omega) (by omega)]; exact z) (h1 t r e ok z)
/-- a sign is taken, or not; or the item is none -/
theorem c_takes {σ : SS} {ts : List Tk} {c : Nat} {post : Int32 → SS → Prop} (h : AtC σ ts) (hf : σ.1 32 = nI 0) (hc : 11 ≤ c) (hc2 : c < 256) (h0 : (ts = [] ∨ ∃ t r, ts = t :: r ∧ t.1 ≠ c ∧ t.1 ≠ 1) → post (nI 0) σ) (h1 : ∀ t r, ts = t :: r → t.1 = c → ∀ u, AdvC σ u r → post (nI 1) u) (h2 : ∀ t r, ts = t :: r → t.1 = 1 → post (nI 0) (sI (sI σ 32 (nI 1)) 33 (σ.1 31))) : f_A_takes post σ (nI c) := by
  simp only [f_A_takes]
  refine c_look h hf (fun z => b_f (by rw [q_eq (by omega) (by omega)]; omega) (h0 (Or.inl z))) (fun t r e ok z => ?_) (fun t r e z => b_f (by rw [q_eq (by omega) (by omega)]; omega) (h2 t r e z))
  have kl := (kind_e ok).2.2
  by_cases y : t.1 = c
  · refine b_t (by rw [y]) ?_
    subst e
    exact h1 t r rfl y _ (AdvC.tail h)
  · exact b_f (by rw [q_eq (by omega) (by omega)]; exact y) (h0 (Or.inr ⟨t, r, e, y, z⟩))
theorem and_hi {x : Nat} (h : x < 18446744073709551616) : x &&& 18446744073709486080 = x / 65536 * 65536 := by
  apply Nat.eq_of_testBit_eq
  intro i
  rw [Nat.testBit_and, show (18446744073709486080 : Nat) = (2 ^ 48 - 1) * 2 ^ 16 from rfl, Nat.testBit_mul_two_pow, Nat.testBit_two_pow_sub_one, show x / 65536 * 65536 = x / 2 ^ 16 * 2 ^ 16 from rfl, Nat.testBit_mul_two_pow, Nat.testBit_div_two_pow]
  by_cases c : 16 ≤ i
  · rw [show i - 16 + 16 = i by omega]
    by_cases c2 : i < 64
    · simp [c, show i - 16 < 48 by omega]
    · have : x.testBit i = false := Nat.testBit_lt_two_pow (Nat.lt_of_lt_of_le (show x < 2 ^ 64 from h) (Nat.pow_le_pow_right (by decide) (by omega)))
      simp [this]
  · simp [c]
theorem j_hi {x : Nat} (h : x < 18446744073709551616) : jI x &&& (-65536) = jI (x / 65536 * 65536) := by
  rw [show (-65536 : Int64) = jI 18446744073709486080 by decide, j_and, and_hi h]
theorem c_nameAt {σ : SS} {t : Tk} {r : List Tk} {post : Int64 → SS → Prop} (h : AtC σ (t :: r)) (hp : post (jI (itC t / 65536 * 65536)) σ) : f_I_nameAt post σ (σ.1 29) := by
  obtain ⟨g1, a, cnt, g2, g3, g4, g5, g6, g7⟩ := h
  have ok := g1 t List.mem_cons_self
  have g8 := g6 0 (by simp)
  rw [Nat.add_zero] at g8
  have e : σ.2.2.2 13 a = jI (itC t) := g8
  simp only [f_I_nameAt]
  rw [g2, g3]
  refine b_f (by rw [q_lit, q_lt (by omega) (by omega)]; omega) (b_f (by rw [q_le (by omega) (by omega)]; omega) ⟨by rw [q_in (by omega)]; omega, ?_⟩)
  rw [q_cl (by omega), e, j_hi (kind_e ok).2.1]
  exact hp
theorem it_name {t : Tk} (h : okT t) (h2 : t.1 = 2) : itC t / 65536 * 65536 = nameC t.2.2 ∧ isN t.2.2 := by
  have n : isN t.2.2 := by
    rcases h with z | ⟨_, n⟩ | ⟨z, _⟩ | z
    · omega
    · exact n
    · omega
    · unfold sgn at z; omega
  refine ⟨?_, n⟩
  unfold itC
  rw [if_pos h2]
  have e := nameC_e t.2.2 (by have := n.2.1; omega)
  have l := n.2.1
  obtain ⟨m, hm⟩ : ∃ m, 8 - t.2.2.length = m + 2 := ⟨6 - t.2.2.length, by omega⟩
  rw [hm, Nat.pow_add] at e
  have e2 : nameC t.2.2 = nameR 0 t.2.2 * 256 ^ m * 65536 := by rw [e, ← Nat.mul_assoc]
  omega
theorem it_num {t : Tk} (h : okT t) (h3 : t.1 = 3) : itC t / 65536 * 65536 = t.2.1 * 65536 ∧ t.2.1 < 65536 := by
  have n : t.2.1 < 65536 := by
    rcases h with z | ⟨z, _⟩ | ⟨_, n⟩ | z
    · omega
    · omega
    · exact n
    · unfold sgn at z; omega
  refine ⟨?_, n⟩
  unfold itC
  rw [if_neg (by omega), if_pos h3]
  omega
/-- a term: its fault, its number -/
def tmF (lb : Lb) (loc : Nat) (t : Tk) : Nat := if t.1 = 1 then 1 else if t.1 = 2 then (if nmb lb loc t.2.2 = 4294967295 then 3 else 0) else if t.1 = 3 then 0 else 2
def tmV (lb : Lb) (loc : Nat) (t : Tk) : Nat := if t.1 = 2 then nmb lb loc t.2.2 else t.2.1
theorem nmb_lt {σ : SS} {lb : Lb} {loc : Nat} {cs : List Nat} (hL : LbC σ lb) (hl : loc < 65536) : nmb lb loc cs = 4294967295 ∨ nmb lb loc cs < 65536 := by
  have hb : ∀ i, i < lb.length → (lb.getD i ([], 0)).2 < 65536 := by
    rcases hL with ⟨_, _, _, h⟩ | ⟨_, _, _, h⟩
    · exact fun i hi => (h i hi).2.1
    · exact fun i hi => (h i hi).2.1
  unfold nmb
  split
  · exact Or.inr hl
  · split
    · exact lkL_lt hb
    · rcases givN_lt cs with z | z
      · exact Or.inl z
      · exact Or.inr (by omega)
theorem c_term {σ : SS} {ts : List Tk} {lb : Lb} {loc : Nat} {post : Int32 → SS → Prop} (h : AtC σ ts) (hv : LivC σ lb loc) (hl : loc < 65536) (h1 : ∀ t r, ts = t :: r → tmF lb loc t = 0 → ∀ u, AdvC σ u r → post (nI (tmV lb loc t)) u) (h2 : ∀ f, (ts = [] ∧ f = 2) ∨ (∃ t r, ts = t :: r ∧ f = tmF lb loc t ∧ f ≠ 0) → ∀ r u, FltC σ f u → post r u) : f_A_readTerm post σ := by
  obtain ⟨v0, v1, v2, v3⟩ := id hv
  have inv := h.inv v1 v2
  simp only [f_A_readTerm]
  refine c_look h v0 (fun z => ?_) (fun t r e ok z => ?_) (fun t r e z => ?_)
  · refine b_f (by decide) (b_f (by decide) (c_comp v0 (h2 2 (Or.inl ⟨z, rfl⟩) _ _ (c_flt inv (by omega)))))
  · subst e
    have kl := (kind_e ok).2.2
    have adv := AdvC.tail h
    by_cases k2 : t.1 = 2
    · rw [k2]
      refine b_t rfl (b_t rfl ?_)
      obtain ⟨e1, e2⟩ := it_name ok k2
      refine c_nameAt h ?_
      rw [e1]
      refine c_nmb e2 v2 v3 ?_
      rcases nmb_lt (cs := t.2.2) v2 hl with y | y
      · rw [y]
        have ef : tmF lb loc t = 3 := by unfold tmF; rw [if_neg z, if_pos k2, if_pos y]
        refine b_t (by rw [q_lit, q_n1]) (c_comp v0 ?_)
        have fl := c_flt (f := 3) inv (by omega)
        refine h2 3 (Or.inr ⟨t, r, rfl, ef.symm, by omega⟩) _ _ (fl.saf (s_adv fl.1 ?_))
        obtain ⟨_, a, cnt, g2, g3, g4, g5, _⟩ := h
        exact ⟨cnt, a, g3, g4, g2, by omega⟩
      · have ef : tmF lb loc t = 0 := by unfold tmF; rw [if_neg z, if_pos k2, if_neg (by omega)]
        have ev : tmV lb loc t = nmb lb loc t.2.2 := by unfold tmV; rw [if_pos k2]
        refine b_f (by rw [q_lit, q_n1, q_eq (by omega) (by omega)]; omega) ?_
        have := h1 t r rfl ef _ adv
        rw [ev] at this
        exact this
    · by_cases k3 : t.1 = 3
      · rw [k3]
        refine b_f (by decide) (b_t rfl (b_f (by decide) ?_))
        obtain ⟨e1, e2⟩ := it_num ok k3
        simp only [f_I_numberAt]
        refine c_nameAt h ?_
        rw [e1]
        have ee : (jI (t.2.1 * 65536) >>> ((16 : Int32).toInt64 &&& 63)).toInt32 = nI t.2.1 := by
          rw [show (16 : Int32).toInt64 &&& 63 = jI 16 by decide, j_shr (by omega) (by omega), j_i]
          congr 1
          show t.2.1 * 65536 / 65536 = t.2.1
          omega
        rw [ee]
        have ef : tmF lb loc t = 0 := by unfold tmF; rw [if_neg z, if_neg k2, if_pos k3]
        have ev : tmV lb loc t = t.2.1 := by unfold tmV; rw [if_neg k2]
        refine b_f (by rw [q_lit, q_n1, q_eq (by omega) (by omega)]; omega) ?_
        have := h1 t r rfl ef _ adv
        rw [ev] at this
        exact this
      · have ef : tmF lb loc t = 2 := by unfold tmF; rw [if_neg z, if_neg k2, if_neg k3]
        refine b_f (by rw [q_lit, q_eq (by omega) (by omega)]; exact k2) (b_f (by rw [q_lit, q_eq (by omega) (by omega)]; exact k3) (c_comp v0 (h2 2 (Or.inr ⟨t, r, rfl, ef.symm, by omega⟩) _ _ (c_flt inv (by omega)))))
  · have ef : tmF lb loc t = 1 := by unfold tmF; rw [if_pos z]
    have fl := c_flt (f := 1) inv (by omega)
    refine b_f (by decide) (b_f (by decide) (s_comp (f := 2) fl.ne (h2 1 (Or.inr ⟨t, r, e, ef.symm, by omega⟩) _ _ fl)))
