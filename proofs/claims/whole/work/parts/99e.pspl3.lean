/-! the pure side: the class's items, the text -/
theorem LexL_bl {T : Nat → Nat} {e p : Nat} {l : List Tk} (hb : bl (T p)) (h : LexL T e (p + 1) l) : LexL T e p l := by
  cases l with
  | nil =>
    obtain ⟨h1, h2⟩ := h
    refine ⟨by omega, fun i a b => ?_⟩
    by_cases z : i = p
    · rw [z]; exact hb
    · exact h2 i (by omega) b
  | cons t r =>
    obtain ⟨q, n, h1, h2, h3⟩ := h
    refine ⟨q, n, by omega, fun i a b => ?_, h3⟩
    by_cases z : i = p
    · rw [z]; exact hb
    · exact h2 i (by omega) b
theorem wordEnd (T : Nat → Nat) (len : Nat) (m : Nat) : ∀ p, p + m = len → ∃ n, p + n ≤ len ∧ (∀ i, i < n → isL (T (p + i))) ∧ (p + n = len ∨ ¬ isL (T (p + n))) := by
  induction m with
  | zero => intro p hp; exact ⟨0, by omega, fun i hi => absurd hi (by omega), Or.inl (by omega)⟩
  | succ m ih =>
    intro p hp
    by_cases h : isL (T p)
    · obtain ⟨n, h1, h2, h3⟩ := ih (p + 1) (by omega)
      refine ⟨n + 1, by omega, fun i hi => ?_, ?_⟩
      · by_cases z : i = 0
        · rw [z]; exact h
        · have := h2 (i - 1) (by omega)
          rwa [show p + 1 + (i - 1) = p + i by omega] at this
      · rw [show p + (n + 1) = p + 1 + n by omega]; exact h3
    · exact ⟨0, by omega, fun i hi => absurd hi (by omega), Or.inr h⟩
theorem lineEnd (T : Nat → Nat) (len : Nat) (m : Nat) : ∀ p, p + m = len → ∃ en, p ≤ en ∧ en ≤ len ∧ (∀ i, p ≤ i → i < en → T i ≠ 10) ∧ (en = len ∨ T en = 10) := by
  induction m with
  | zero => intro p hp; exact ⟨p, by omega, by omega, fun i a b => absurd a (by omega), Or.inl (by omega)⟩
  | succ m ih =>
    intro p hp
    by_cases h : T p = 10
    · exact ⟨p, by omega, by omega, fun i a b => absurd a (by omega), Or.inr h⟩
    · obtain ⟨en, h1, h2, h3, h4⟩ := ih (p + 1) (by omega)
      refine ⟨en, by omega, h2, fun i a b => ?_, h4⟩
      by_cases z : i = p
      · rw [z]; exact h
      · exact h3 i (by omega) b
def SP (σ : SS) (c : Nat) (ls : List Nat) (u : SS) : Prop := FrS σ u ∧ u.1 35 = nI (c + ls.length) ∧ c + ls.length ≤ 6001 ∧ (∀ i, i < c → u.2.2.2 13 i = σ.2.2.2 13 i) ∧ ∀ i, i < ls.length → u.2.2.2 13 (c + i) = jI (ls.getD i 0)
theorem SP.cons {σ σ1 u : SS} {c x : Nat} {ls : List Nat} (hf : FrS σ σ1) (h1 : σ1.2.2.2 13 c = jI x) (h2 : ∀ i, i < c → σ1.2.2.2 13 i = σ.2.2.2 13 i) (h : SP σ1 (c + 1) ls u) : SP σ c (x :: ls) u := by
  obtain ⟨g1, g2, g3, g4, g5⟩ := h
  refine ⟨hf.trans g1, ?_, ?_, fun i hi => (g4 i (by omega)).trans (h2 i hi), fun i hi => ?_⟩
  · rw [g2, List.length_cons]; congr 1; omega
  · rw [List.length_cons]; omega
  · cases i with
    | zero => rw [Nat.add_zero, g4 c (by omega), h1]; rfl
    | succ i =>
      have := g5 i (by rw [List.length_cons] at hi; omega)
      rw [show c + 1 + i = c + (i + 1) by omega] at this
      rw [this]; rfl
theorem SP.same {σ σ1 u : SS} {c : Nat} {ls : List Nat} (hf : FrS σ σ1) (h2 : σ1.2.2.2 13 = σ.2.2.2 13) (h : SP σ1 c ls u) : SP σ c ls u := by
  obtain ⟨g1, g2, g3, g4, g5⟩ := h
  exact ⟨hf.trans g1, g2, g3, fun i hi => by rw [g4 i hi, h2], g5⟩
theorem c_split {T : Nat → Nat} {len : Nat} (h6 : len ≤ 6000) : ∀ d p, p + d = len → ∃ ls, TxtL T len p ls ∧ (fl ls).length ≤ d + 1 ∧ ∀ (σ : SS) (x c : Nat) (post : SS → Prop), CTx σ T len → σ.1 36 = nI p → σ.1 35 = nI c → x ≤ p → c ≤ p → (∀ u, SP σ c (fl ls) u → post u) → ∀ n, d < n → f_I_split_12 post n σ (nI x) := by
  intro d
  induction d using Nat.strongRecOn with
  | _ d IH =>
  intro p hp
  by_cases hd : d = 0
  · have : p = len := by omega
    subst this
    refine ⟨[[]], ⟨p, p, by omega, by omega, by omega, fun i a b => absurd a (by omega), Or.inl rfl, fun i a b => absurd a (by omega), Or.inl rfl, ⟨by omega, fun i a b => absurd a (by omega)⟩, Or.inl ⟨rfl, rfl⟩⟩, by show 1 ≤ _; omega, fun σ x c post ht h36 h35 hx hc k n hn => ?_⟩
    obtain ⟨m, rfl⟩ : ∃ m, n = m + 1 := ⟨n - 1, by omega⟩
    have fin : f_I_split_40 post σ := by
      refine c_add (x := 10) (by omega) h35 (fun u g => k u ?_)
      obtain ⟨g1, g2, g3, g4, g5⟩ := g
      refine ⟨g1, g3, by show c + 1 ≤ 6001; omega, fun i hi => g5 i (by omega), fun i hi => ?_⟩
      have : i = 0 := by have : i < 1 := hi; omega
      subst this
      exact g4
    rw [f_I_split_12, ht.2.1, h36]
    exact b_c (fun _ => fin) (fun _ => b_t (by rw [q_le (by omega) (by omega)]; omega) fin)
  have head : ∀ (σ : SS) (x n : Nat) (post : SS → Prop), CTx σ T len → σ.1 36 = nI p → x ≤ p → f_I_splitNext (fun σ_3 => f_I_split_12 post n σ_3 (nI (x + 1))) σ → f_I_split_12 post (n + 1) σ (nI x) := by
    intro σ x n post ht h36 hx h
    rw [f_I_split_12, ht.2.1, h36]
    refine b_f (by rw [q_lit, q_le (by omega) (by omega)]; omega) (b_f (by rw [q_le (by omega) (by omega)]; omega) ?_)
    simp only [nm]
    rw [show nI x + 1 = nI (x + 1) from q_add x 1]
    exact h
  have hd2 : ∀ (σ : SS) (q : SS → Prop), CTx σ T len → σ.1 36 = nI p → (isL (T p) → f_I_splitLetters q σ (nI (T p))) → (¬ isL (T p) → br (nI (T p) = 10) (f_I_add q (sI σ 36 (nI (p + 1))) 10) (br (nI (T p) = 59) (f_I_skipLine q (sI σ 36 (nI (p + 1)))) (br (nI (T p) = 32) (q (sI σ 36 (nI (p + 1)))) (br (nI (T p) = 9) (q (sI σ 36 (nI (p + 1)))) (f_JStr_indexOf1 (fun r_8 σ_7 => br (r_8 < 0) (f_I_splitNext_90 q σ_7 1) (f_I_splitNext_90 q σ_7 ((nI (T p)).toInt64))) (sI σ 36 (nI (p + 1))) 0 (nI (T p))))))) → f_I_splitNext q σ := by
    intro σ q ht h36 h1 h2
    obtain ⟨t1, t2, t3⟩ := id ht
    obtain ⟨c1, c2⟩ := t3 p (by omega)
    simp only [f_I_splitNext, nm]
    rw [h36]
    refine ⟨by rw [q_in (by omega)]; omega, ?_⟩
    rw [q_cl (by omega), c2]
    refine c_goes c1 (fun z => b_f (by decide) (h1 z)) (fun z => b_t rfl ?_)
    rw [h36, show nI p + 1 = nI (p + 1) from q_add p 1]
    exact h2 z
  by_cases hL : isL (T p)
  · obtain ⟨n, w1, w2, w3⟩ := wordEnd T len d p hp
    have hn : 0 < n := by
      rcases Nat.eq_zero_or_pos n with z | z
      · subst z
        rcases w3 with y | y
        · omega
        · exact absurd hL y
      · exact z
    obtain ⟨ls, L1, L2, L3⟩ := IH (d - n) (by omega) (p + n) (by omega)
    cases ls with
    | nil => exact absurd L1 (fun z => z)
    | cons l rest =>
      obtain ⟨en, e, a1, a2, a3, a4, a5, a6, a7, a8, a9⟩ := L1
      refine ⟨(wTok (seg T p n) :: l) :: rest, ⟨en, e, by omega, a2, a3, fun i x y => ?_, a5, fun i x y => ?_, a7, ⟨p, n, by omega, fun i x y => absurd x (by omega), Or.inl ⟨hn, w2, a1, ?_, rfl⟩, a8⟩, a9⟩, ?_, fun σ x c post ht h36 h35 hx hc k m hm => ?_⟩
      · by_cases z : i < p + n
        · have := isL_b (w2 (i - p) (by omega))
          rw [show p + (i - p) = i by omega] at this
          omega
        · exact a4 i (by omega) y
      · by_cases z : i < p + n
        · have hb := w2 (i - p) (by omega)
          rw [show p + (i - p) = i by omega] at hb
          unfold isL at hb
          omega
        · exact a6 i (by omega) y
      · rcases w3 with z | z
        · exact Or.inl (by omega)
        · exact Or.inr z
      · show (itC (wTok (seg T p n)) :: fl (l :: rest)).length ≤ _
        rw [List.length_cons]; omega
      · obtain ⟨m, rfl⟩ : ∃ m', m = m' + 1 := ⟨m - 1, by omega⟩
        refine head σ x m post ht h36 hx (hd2 σ _ ht h36 (fun _ => ?_) (fun z => absurd hL z))
        simp only [f_I_splitLetters, nm]
        rw [h36]
        refine ⟨n + 1, c_letL (σ0 := σ) hn w1 (by omega) w2 w3 (fun u g1 g2 g3 g4 g5 => ?_) n 0 σ (by omega) ht (FrS.refl _) h36 h35 rfl⟩
        exact L3 u (x + 1) (c + 1) post (ht.fr g1) g2 g3 (by omega) (by omega) (fun u' h' => k u' (SP.cons g1 g4 (fun i hi => g5 i (by omega)) h')) m (by omega)
  by_cases h10 : T p = 10
  · obtain ⟨ls, L1, L2, L3⟩ := IH (d - 1) (by omega) (p + 1) (by omega)
    refine ⟨[] :: ls, ⟨p, p, by omega, by omega, by omega, fun i a b => absurd a (by omega), Or.inr h10, fun i a b => absurd a (by omega), Or.inl rfl, ⟨by omega, fun i a b => absurd a (by omega)⟩, Or.inr ⟨by omega, L1⟩⟩, ?_, fun σ x c post ht h36 h35 hx hc k m hm => ?_⟩
    · show (10 :: fl ls).length ≤ _
      rw [List.length_cons]; omega
    · obtain ⟨m, rfl⟩ : ∃ m', m = m' + 1 := ⟨m - 1, by omega⟩
      refine head σ x m post ht h36 hx (hd2 σ _ ht h36 (fun z => absurd z hL) (fun _ => ?_))
      rw [h10]
      refine b_t rfl (c_add (x := 10) (c := c) (by omega) h35 (fun u g => ?_))
      obtain ⟨g1, g2, g3, g4, g5⟩ := g
      have g1' : FrS σ u := ((FrS.refl σ).sI (by omega) _).trans g1
      exact L3 u (x + 1) (c + 1) post (ht.fr g1') g2 g3 (by omega) (by omega) (fun u' h' => k u' (SP.cons g1' g4 (fun i hi => g5 i (by omega)) h')) m (by omega)
  by_cases h59 : T p = 59
  · obtain ⟨en, e1, e2, e3, e4⟩ := lineEnd T len (d - 1) (p + 1) (by omega)
    obtain ⟨ls, L1, L2, L3⟩ := IH (len - en) (by omega) en (by omega)
    cases ls with
    | nil => exact absurd L1 (fun z => z)
    | cons l rest =>
      obtain ⟨en', e, a1, a2, a3, a4, a5, a6, a7, a8, a9⟩ := L1
      have hen : en' = en := by
        rcases e4 with z | z
        · omega
        · by_cases y : en' = en
          · exact y
          · exact absurd z (a4 en (by omega) (by omega))
      subst hen
      have hl : l = [] := by
        cases l with
        | nil => rfl
        | cons t r =>
          obtain ⟨q, n, b1, b2, b3, b4⟩ := a8
          have hqe : q < e := by rcases b3 with ⟨c1, _, c3, _⟩ | ⟨_, _, _, c4, _⟩ <;> omega
          omega
      subst hl
      refine ⟨[] :: rest, ⟨en', p, by omega, by omega, a3, fun i x y => ?_, a5, fun i a b => absurd a (by omega), Or.inr h59, ⟨by omega, fun i a b => absurd a (by omega)⟩, a9⟩, by omega, fun σ x c post ht h36 h35 hx hc k m hm => ?_⟩
      · by_cases z : i = p
        · rw [z, h59]; decide
        · exact e3 i (by omega) y
      · obtain ⟨m, rfl⟩ : ∃ m', m = m' + 1 := ⟨m - 1, by omega⟩
        refine head σ x m post ht h36 hx (hd2 σ _ ht h36 (fun z => absurd z hL) (fun _ => ?_))
        rw [h59]
        refine b_f (by decide) (b_t rfl ?_)
        have f0 : FrS σ (sI σ 36 (nI (p + 1))) := (FrS.refl σ).sI (by omega) _
        refine ⟨en' - (p + 1) + 1, c_skip (σ0 := σ) e2 e4 (fun u g1 g2 g3 g4 => ?_) (en' - (p + 1)) (p + 1) _ (by omega) (ht.fr f0) f0 rfl rfl rfl e3⟩
        exact L3 u (x + 1) c post (ht.fr g1) g2 (g3.trans h35) (by omega) (by omega) (fun u' h' => k u' (SP.same g1 g4 h')) m (by omega)
  by_cases hb : bl (T p)
  · obtain ⟨ls, L1, L2, L3⟩ := IH (d - 1) (by omega) (p + 1) (by omega)
    cases ls with
    | nil => exact absurd L1 (fun z => z)
    | cons l rest =>
      obtain ⟨en, e, a1, a2, a3, a4, a5, a6, a7, a8, a9⟩ := L1
      refine ⟨l :: rest, ⟨en, e, by omega, a2, a3, fun i x y => ?_, a5, fun i x y => ?_, a7, LexL_bl hb a8, a9⟩, by omega, fun σ x c post ht h36 h35 hx hc k m hm => ?_⟩
      · by_cases z : i = p
        · rw [z]; exact h10
        · exact a4 i (by omega) y
      · by_cases z : i = p
        · rw [z]; exact h59
        · exact a6 i (by omega) y
      · obtain ⟨m, rfl⟩ : ∃ m', m = m' + 1 := ⟨m - 1, by omega⟩
        have f0 : FrS σ (sI σ 36 (nI (p + 1))) := (FrS.refl σ).sI (by omega) _
        have go : f_I_split_12 post m (sI σ 36 (nI (p + 1))) (nI (x + 1)) := L3 _ (x + 1) c post (ht.fr f0) rfl h35 (by omega) (by omega) (fun u' h' => k u' (SP.same f0 rfl h')) m (by omega)
        refine head σ x m post ht h36 hx (hd2 σ _ ht h36 (fun z => absurd z hL) (fun _ => ?_))
        rcases hb with z | z
        · rw [z]; exact b_f (by decide) (b_f (by decide) (b_t rfl go))
        · rw [z]; exact b_f (by decide) (b_f (by decide) (b_f (by decide) (b_t rfl go)))
  · obtain ⟨ls, L1, L2, L3⟩ := IH (d - 1) (by omega) (p + 1) (by omega)
    cases ls with
    | nil => exact absurd L1 (fun z => z)
    | cons l rest =>
      obtain ⟨en, e, a1, a2, a3, a4, a5, a6, a7, a8, a9⟩ := L1
      have key : ∀ t : Tk, ((sgn (T p) ∧ t = (T p, 0, [])) ∨ (¬ sgn (T p) ∧ t = (1, 0, []))) → ∃ ls, TxtL T len p ls ∧ (fl ls).length ≤ d + 1 ∧ ∀ (σ : SS) (x c : Nat) (post : SS → Prop), CTx σ T len → σ.1 36 = nI p → σ.1 35 = nI c → x ≤ p → c ≤ p → (∀ u, SP σ c (fl ls) u → post u) → ∀ n, d < n → f_I_split_12 post n σ (nI x) := by
        intro t htk
        refine ⟨(t :: l) :: rest, ⟨en, e, by omega, a2, a3, fun i x y => ?_, a5, fun i x y => ?_, a7, ⟨p, 1, by omega, fun i x y => absurd x (by omega), Or.inr ⟨hL, hb, rfl, by omega, htk⟩, a8⟩, a9⟩, ?_, fun σ x c post ht h36 h35 hx hc k m hm => ?_⟩
        · by_cases z : i = p
          · rw [z]; exact h10
          · exact a4 i (by omega) y
        · by_cases z : i = p
          · rw [z]; exact h59
          · exact a6 i (by omega) y
        · show (itC t :: fl (l :: rest)).length ≤ _
          rw [List.length_cons]; omega
        · obtain ⟨m, rfl⟩ : ∃ m', m = m' + 1 := ⟨m - 1, by omega⟩
          obtain ⟨c1, c2⟩ := ht.2.2 p (by omega)
          have f0 : FrS σ (sI σ 36 (nI (p + 1))) := (FrS.refl σ).sI (by omega) _
          have go : ∀ x0, x0 = itC t → f_I_splitNext_90 (fun σ_3 => f_I_split_12 post m σ_3 (nI (x + 1))) (sI σ 36 (nI (p + 1))) (jI x0) := by
            intro x0 hx0
            refine c_add (c := c) (by omega) h35 (fun u g => ?_)
            obtain ⟨g1, g2, g3, g4, g5⟩ := g
            have g1' : FrS σ u := f0.trans g1
            exact L3 u (x + 1) (c + 1) post (ht.fr g1') g2 g3 (by omega) (by omega) (fun u' h' => k u' (SP.cons g1' (by rw [g4, hx0]) (fun i hi => g5 i (by omega)) h')) m (by omega)
          refine head σ x m post ht h36 hx (hd2 σ _ ht h36 (fun z => absurd z hL) (fun _ => ?_))
          unfold bl at hb
          have ne : ∀ y : Nat, y < 256 → T p ≠ y → ¬ nI (T p) = nI y := fun y hy hn => by rw [q_eq (by omega) (by omega)]; exact hn
          refine b_f (ne 10 (by omega) h10) (b_f (ne 59 (by omega) h59) (b_f (ne 32 (by omega) (by omega)) (b_f (ne 9 (by omega) (by omega)) ?_)))
          refine c_index c1 (fun s r hr => ?_) (fun s => ?_)
          · refine b_f (by rw [q_lit, q_lt (by omega) (by omega)]; omega) ?_
            rw [n_j (by omega)]
            refine go _ ?_
            rcases htk with ⟨_, z⟩ | ⟨z, _⟩
            · rw [z]
              unfold itC
              unfold sgn at s
              rw [if_neg (show ¬ T p = 2 by omega), if_neg (show ¬ T p = 3 by omega)]
            · exact absurd s z
          · refine b_t (by decide) (go 1 ?_)
            rcases htk with ⟨z, _⟩ | ⟨_, z⟩
            · exact absurd z s
            · rw [z]; rfl
      by_cases hs : sgn (T p)
      · exact key _ (Or.inl ⟨hs, rfl⟩)
      · exact key _ (Or.inr ⟨hs, rfl⟩)
