/-! the pure side: tables of labels, terms, expressions -/
abbrev Lb : Type := List (List Nat × Nat)
def LbR (τ : SS) (lb : Lb) : Prop := lb.length ≤ 200 ∧ τ.1 16 = nI lb.length ∧ ∀ i, i < lb.length → isN (lb.getD i ([], 0)).1 ∧ (lb.getD i ([], 0)).2 < 65536 ∧ τ.2.2.2 10 i = jI (nameR 0 (lb.getD i ([], 0)).1) ∧ τ.2.1 11 i = nI (lb.getD i ([], 0)).2
def LbT (n : Int32) (K : Nat → Int64) (P : Nat → Int32) (lb : Lb) : Prop := lb.length ≤ 200 ∧ n = nI lb.length ∧ ∀ i, i < lb.length → isN (lb.getD i ([], 0)).1 ∧ (lb.getD i ([], 0)).2 < 65536 ∧ K i = jI (nameC (lb.getD i ([], 0)).1) ∧ P i = nI (lb.getD i ([], 0)).2
def LbC (σ : SS) (lb : Lb) : Prop := (σ.1 25 = nI 0 ∧ LbT (σ.1 37) (σ.2.2.2 15) (σ.2.1 16) lb) ∨ (σ.1 25 = nI 1 ∧ LbT (σ.1 38) (σ.2.2.2 18) (σ.2.1 19) lb)
def lkL (lb : Lb) (cs : List Nat) : Nat := match lb with
  | [] => 4294967295
  | x :: r => if x.1 = cs then x.2 else lkL r cs
theorem lk_L {lb : Lb} {cs : List Nat} {i : Nat} (hi : i < lb.length) : lkL (lb.drop i) cs = if (lb.getD i ([], 0)).1 = cs then (lb.getD i ([], 0)).2 else lkL (lb.drop (i + 1)) cs := by
  rw [List.drop_eq_getElem_cons hi]
  simp [lkL, List.getD, List.getElem?_eq_getElem hi]
theorem c_f14 {σ : SS} {lb : Lb} {cs : List Nat} {post : Int32 → SS → Prop} (h : isN cs) (hT : LbT (σ.1 37) (σ.2.2.2 15) (σ.2.1 16) lb) (hp : post (nI (lkL lb cs)) σ) : f_L_find_14 post σ (jI (nameC cs)) := by
  obtain ⟨t1, t2, t3⟩ := hT
  have L : ∀ k i, i + k = lb.length → post (nI (lkL (lb.drop i) cs)) σ → f_L_find_14_2 post (k + 1) σ (jI (nameC cs)) (nI i) := by
    intro k
    induction k with
    | zero =>
      intro i hi hp
      rw [f_L_find_14_2, t2]
      refine b_t (by rw [q_le (by omega) (by omega)]; omega) ?_
      rw [List.drop_of_length_le (by omega)] at hp
      rw [q_lit, q_n1]; exact hp
    | succ k ih =>
      intro i hi hp
      obtain ⟨n1, n2, n3, n4⟩ := t3 i (by omega)
      rw [lk_L (by omega)] at hp
      rw [f_L_find_14_2, t2]
      refine b_f (by rw [q_le (by omega) (by omega)]; omega) ⟨by rw [q_in (by omega)]; omega, ?_⟩
      rw [q_cl (by omega), n3]
      refine b_c (fun z => ?_) (fun z => ?_)
      · rw [q_lit, j_c0, eqC n1 h] at z
        rw [if_pos z] at hp
        refine ⟨by rw [q_in (by omega)]; omega, ?_⟩
        rw [n4]; exact hp
      · rw [q_lit, j_c0, eqC n1 h] at z
        rw [if_neg z] at hp
        simp only [nm]
        rw [show nI i + 1 = nI (i + 1) from q_add i 1]
        exact ih (i + 1) (by omega) hp
  exact ⟨lb.length + 1, L lb.length 0 (by omega) hp⟩
theorem c_f17 {σ : SS} {lb : Lb} {cs : List Nat} {post : Int32 → SS → Prop} (h : isN cs) (hT : LbT (σ.1 38) (σ.2.2.2 18) (σ.2.1 19) lb) (hp : post (nI (lkL lb cs)) σ) : f_L_find_17 post σ (jI (nameC cs)) := by
  obtain ⟨t1, t2, t3⟩ := hT
  have L : ∀ k i, i + k = lb.length → post (nI (lkL (lb.drop i) cs)) σ → f_L_find_17_2 post (k + 1) σ (jI (nameC cs)) (nI i) := by
    intro k
    induction k with
    | zero =>
      intro i hi hp
      rw [f_L_find_17_2, t2]
      refine b_t (by rw [q_le (by omega) (by omega)]; omega) ?_
      rw [List.drop_of_length_le (by omega)] at hp
      rw [q_lit, q_n1]; exact hp
    | succ k ih =>
      intro i hi hp
      obtain ⟨n1, n2, n3, n4⟩ := t3 i (by omega)
      rw [lk_L (by omega)] at hp
      rw [f_L_find_17_2, t2]
      refine b_f (by rw [q_le (by omega) (by omega)]; omega) ⟨by rw [q_in (by omega)]; omega, ?_⟩
      rw [q_cl (by omega), n3]
      refine b_c (fun z => ?_) (fun z => ?_)
      · rw [q_lit, j_c0, eqC n1 h] at z
        rw [if_pos z] at hp
        refine ⟨by rw [q_in (by omega)]; omega, ?_⟩
        rw [n4]; exact hp
      · rw [q_lit, j_c0, eqC n1 h] at z
        rw [if_neg z] at hp
        simp only [nm]
        rw [show nI i + 1 = nI (i + 1) from q_add i 1]
        exact ih (i + 1) (by omega) hp
  exact ⟨lb.length + 1, L lb.length 0 (by omega) hp⟩
theorem c_find {σ : SS} {lb : Lb} {cs : List Nat} {post : Int32 → SS → Prop} (h : isN cs) (hL : LbC σ lb) (hp : post (nI (lkL lb cs)) σ) : br (σ.1 25 = 0) (f_L_find_14 post σ (jI (nameC cs))) (f_L_find_17 post σ (jI (nameC cs))) := by
  rcases hL with ⟨b, hT⟩ | ⟨b, hT⟩
  · exact b_t b (c_f14 h hT hp)
  · exact b_f (by rw [b]; decide) (c_f17 h hT hp)
/-- where a label stands, in the reference: a place, or none -/
theorem r_lab {τ : SS} {lb : Lb} {cs : List Nat} {post : Int32 → SS → Prop} (h : isN cs) (hT : LbR τ lb) (h0 : lkL lb cs = 4294967295 → post (nI 4294967295) τ) (h1 : ∀ i, i < lb.length → (lb.getD i ([], 0)).2 = lkL lb cs → lkL lb cs ≠ 4294967295 → post (nI i) τ) : f_R_labelOf post τ (jI (nameR 0 cs)) := by
  obtain ⟨t1, t2, t3⟩ := hT
  have L : ∀ k i, i + k = lb.length → lkL lb cs = lkL (lb.drop i) cs → f_R_labelOf_2 post (k + 1) τ (jI (nameR 0 cs)) (nI i) := by
    intro k
    induction k with
    | zero =>
      intro i hi hp
      rw [f_R_labelOf_2, t2]
      refine b_t (by rw [q_le (by omega) (by omega)]; omega) ?_
      rw [List.drop_of_length_le (by omega)] at hp
      have := h0 hp
      rw [← q_n1] at this
      exact this
    | succ k ih =>
      intro i hi hp
      obtain ⟨n1, n2, n3, n4⟩ := t3 i (by omega)
      rw [lk_L (by omega)] at hp
      rw [f_R_labelOf_2, t2]
      refine b_f (by rw [q_le (by omega) (by omega)]; omega) ⟨by rw [q_in (by omega)]; omega, ?_⟩
      rw [q_cl (by omega), n3]
      refine b_c (fun z => ?_) (fun z => ?_)
      · rw [q_lit, j_c0, eqR n1 h] at z
        rw [if_pos z] at hp
        exact h1 i (by omega) hp.symm (by omega)
      · rw [q_lit, j_c0, eqR n1 h] at z
        rw [if_neg z] at hp
        simp only [nm]
        rw [show nI i + 1 = nI (i + 1) from q_add i 1]
        exact ih (i + 1) (by omega) hp
  exact ⟨lb.length + 1, L lb.length 0 (by omega) rfl⟩
def nmb (lb : Lb) (loc : Nat) (cs : List Nat) : Nat := if cs = [46] then loc else if givN cs = 4294967295 then lkL lb cs else givN cs
theorem givN_lt (cs : List Nat) : givN cs = 4294967295 ∨ givN cs < 64 := by
  unfold givN
  (repeat' split) <;> omega
theorem lkL_lt {lb : Lb} {cs : List Nat} (h : ∀ i, i < lb.length → (lb.getD i ([], 0)).2 < 65536) : lkL lb cs = 4294967295 ∨ lkL lb cs < 65536 := by
  induction lb with
  | nil => exact Or.inl rfl
  | cons x r ih =>
    have h0 := h 0 (by simp)
    have hr := ih (fun i hi => by have := h (i + 1) (by simp only [List.length_cons]; omega); simpa using this)
    unfold lkL
    by_cases z : x.1 = cs
    · rw [if_pos z]; exact Or.inr (by simpa using h0)
    · rw [if_neg z]; exact hr
theorem isN_46 : isN [46] := by
  refine ⟨by decide, by decide, fun c hc => ?_⟩
  rw [List.mem_singleton] at hc
  subst hc
  unfold isL; omega
theorem c_nmb {σ : SS} {lb : Lb} {cs : List Nat} {loc : Nat} {post : Int32 → SS → Prop} (h : isN cs) (hL : LbC σ lb) (h30 : σ.1 30 = nI loc) (hp : post (nI (nmb lb loc cs)) σ) : f_A_numberOf post σ (jI (nameC cs)) := by
  have e46 : (3314649325744685056 : Int64) = jI (nameC [46]) := by decide
  unfold nmb at hp
  simp only [f_A_numberOf]
  rw [e46]
  refine b_c (fun z => ?_) (fun z => ?_)
  · rw [q_lit, j_c0, eqC h isN_46] at z
    rw [if_pos z] at hp
    rw [h30]; exact hp
  · rw [q_lit, j_c0, eqC h isN_46] at z
    rw [if_neg z] at hp
    refine c_giv h (b_c (fun y => ?_) (fun y => ?_))
    · rw [q_lit, q_n1, q_eq (by rcases givN_lt cs with x | x <;> omega) (by omega)] at y
      rw [if_pos y] at hp
      exact c_find h hL hp
    · rw [q_lit, q_n1, q_eq (by rcases givN_lt cs with x | x <;> omega) (by omega)] at y
      rw [if_neg y] at hp
      exact hp
theorem r_nmb {τ : SS} {lb : Lb} {cs : List Nat} {loc : Nat} {post : Int32 → SS → Prop} (h : isN cs) (hL : LbR τ lb) (h19 : τ.1 19 = nI loc) (hp : post (nI (nmb lb loc cs)) τ) : f_R_numberOf post τ (jI (nameR 0 cs)) := by
  have e46 : (46 : Int64) = jI (nameR 0 [46]) := by decide
  obtain ⟨t1, t2, t3⟩ := id hL
  unfold nmb at hp
  simp only [f_R_numberOf]
  rw [e46]
  refine b_c (fun z => ?_) (fun z => ?_)
  · rw [q_lit, j_c0, eqR h isN_46] at z
    rw [if_pos z] at hp
    rw [h19]; exact hp
  · rw [q_lit, j_c0, eqR h isN_46] at z
    rw [if_neg z] at hp
    refine r_giv h ?_
    have neg : (nI 4294967295 : Int32) < 0 := by decide
    by_cases y : givN cs = 4294967295
    · rw [if_pos y] at hp
      refine r_lab h hL (fun w => ?_) (fun i hi w w2 => ?_)
      · rw [y]
        refine b_t neg (b_t neg ?_)
        rw [w] at hp
        rw [q_lit, q_n1]; exact hp
      · rw [y]
        obtain ⟨_, _, _, n4⟩ := t3 i hi
        refine b_t neg (b_f (by rw [q_lit, q_lt (by omega) (by omega)]; omega) ⟨by rw [q_in (by omega)]; omega, ?_⟩)
        rw [q_cl (by omega), n4, w]; exact hp
    · rw [if_neg y] at hp
      have lt : givN cs < 64 := by rcases givN_lt cs with x | x; exact absurd x y; exact x
      have pos : ¬ nI (givN cs) < 0 := by rw [q_lit, q_lt (by omega) (by omega)]; omega
      refine r_lab h hL (fun w => b_f pos hp) (fun i hi w w2 => b_f pos hp)
