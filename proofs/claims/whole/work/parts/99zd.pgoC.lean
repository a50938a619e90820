/-! the pure side: the class's pass over a text -/
theorem wTok_ok {T : Nat → Nat} {q n : Nat} (h0 : 0 < n) (hL : ∀ i, i < n → isL (T (q + i))) : okT (wTok (seg T q n)) := by
  unfold wTok
  by_cases c : 48 ≤ (seg T q n).getD 0 0 ∧ (seg T q n).getD 0 0 ≤ 57
  · rw [if_pos c]
    by_cases d : nv 0 (seg T q n) < 65536
    · rw [if_pos d]; exact Or.inr (Or.inr (Or.inl ⟨rfl, d⟩))
    · rw [if_neg d]; exact Or.inl rfl
  · rw [if_neg c]
    by_cases d : (seg T q n).length ≤ 6
    · rw [if_pos d]
      rw [seg_len] at d
      exact Or.inr (Or.inl ⟨rfl, isN_seg h0 d hL⟩)
    · rw [if_neg d]; exact Or.inl rfl
theorem lex_ok {T : Nat → Nat} {e : Nat} : ∀ (ts : List Tk) (p : Nat), LexL T e p ts → ∀ t ∈ ts, okT t := by
  intro ts
  induction ts with
  | nil => intro p _ t ht; cases ht
  | cons s r ih =>
    intro p h t ht
    obtain ⟨q, n, _, _, hk, hr⟩ := h
    rcases List.mem_cons.mp ht with z | z
    · subst z
      rcases hk with ⟨a, b, _, _, e'⟩ | ⟨_, _, _, _, ⟨a, e'⟩ | ⟨_, e'⟩⟩
      · rw [e']; exact wTok_ok a b
      · rw [e']; exact Or.inr (Or.inr (Or.inr a))
      · rw [e']; exact Or.inl rfl
    · exact ih _ hr t z
theorem txt_ok {T : Nat → Nat} {len : Nat} : ∀ (ls : List (List Tk)) (s : Nat), TxtL T len s ls → ∀ l ∈ ls, ∀ t ∈ l, okT t := by
  intro ls
  induction ls with
  | nil => intro s h; cases h
  | cons l r ih =>
    intro s h l' hl'
    obtain ⟨en, e, _, _, _, _, _, _, _, hx, hr⟩ := h
    rcases List.mem_cons.mp hl' with z | z
    · subst z; exact lex_ok _ _ hx
    · rcases hr with ⟨_, hr⟩ | ⟨_, hr⟩
      · rw [hr] at z; cases z
      · exact ih _ hr l' z
/-- items of lines at an index -/
def ItC (σ : SS) (c : Nat) (xs : List Nat) : Prop := ∀ i, i < xs.length → σ.2.2.2 13 (c + i) = jI (xs.getD i 0)
theorem ItC.fr {σ u : SS} {c : Nat} {xs : List Nat} (h : ItC σ c xs) (e : u.2.2.2 13 = σ.2.2.2 13) : ItC u c xs := by
  intro i hi
  rw [e]; exact h i hi
theorem ItC.tl {σ : SS} {c : Nat} {a b : List Nat} (h : ItC σ c (a ++ b)) : ItC σ (c + a.length) b := by
  intro i hi
  have := h (a.length + i) (by rw [List.length_append]; omega)
  rw [show c + (a.length + i) = c + a.length + i by omega] at this
  rw [this]
  congr 1
  simp [List.getD, List.getElem?_append_right (show a.length ≤ a.length + i by omega)]
theorem ItC.hd {σ : SS} {c i : Nat} {a b : List Nat} (h : ItC σ c (a ++ b)) (hi : i < a.length) : σ.2.2.2 13 (c + i) = jI (a.getD i 0) := by
  rw [h i (by rw [List.length_append]; omega)]
  congr 1
  simp [List.getD, List.getElem?_append_left hi]
theorem getD_map {l : List Tk} {i : Nat} (hi : i < l.length) : (l.map itC).getD i 0 = itC (l.getD i (0, 0, [])) := by
  simp [List.getD, List.getElem?_eq_getElem hi]
theorem c_kdI {σ : SS} {cnt i x : Nat} {post : Int32 → SS → Prop} (h35 : σ.1 35 = nI cnt) (hc : cnt ≤ 6001) (hi : i < cnt) (hx : σ.2.2.2 13 i = jI x) (h : post (nI (x % 65536)) σ) : f_I_kindAt post σ (nI i) := by
  simp only [f_I_kindAt]
  rw [h35]
  refine b_f (by rw [q_lit, q_lt (by omega) (by omega)]; omega) (b_f (by rw [q_le (by omega) (by omega)]; omega) ⟨by rw [q_in (by omega)]; omega, ?_⟩)
  rw [q_cl (by omega), hx, j_i, q_lit, q_and, q_a16]
  exact h
/-- to the end of a line -/
theorem c_scan {σ : SS} {cnt : Nat} {p x2 : Int32} {post : SS → Prop} (h35 : σ.1 35 = nI cnt) (hc : cnt ≤ 6001) (h32 : σ.1 32 = nI 0) : ∀ (l : List Tk) (n i : Nat), (∀ t ∈ l, okT t) → i + l.length < cnt → (∀ j, j < l.length → σ.2.2.2 13 (i + j) = jI (itC (l.getD j (0, 0, [])))) → f_A_goThrough_14 post n σ p x2 (nI (i + l.length)) → f_A_goThrough_14 post (n + l.length) σ p x2 (nI i) := by
  intro l
  induction l with
  | nil => intro n i _ _ _ h; exact h
  | cons t r ih =>
    intro n i ho hi hj h
    rw [List.length_cons] at hi h ⊢
    have ok := ho t List.mem_cons_self
    have k := kind_e ok
    have x0 := hj 0 (by simp)
    rw [Nat.add_zero] at x0
    rw [show n + (r.length + 1) = (n + r.length) + 1 by omega, f_A_goThrough_14, h35]
    refine b_f (by rw [q_le (by omega) (by omega)]; omega) (b_t h32 (c_kdI h35 hc (by omega) x0 ?_))
    show br (nI (itC t % 65536) = 10) _ _
    rw [k.1]
    have n10 : ¬ nI t.1 = 10 := by
      rw [q_lit, q_eq (by omega) (by omega)]
      unfold okT sgn at ok
      omega
    refine b_f n10 ?_
    simp only [f_A_goThrough_69, nm]
    rw [show nI i + 1 = nI (i + 1) from q_add i 1]
    refine ih n (i + 1) (fun t' ht' => ho t' (List.mem_cons_of_mem _ ht')) (by omega) (fun j hj' => ?_) ?_
    · have := hj (j + 1) (by rw [List.length_cons]; omega)
      rw [show i + (j + 1) = i + 1 + j by omega] at this
      exact this
    · rw [show i + 1 + r.length = i + (r.length + 1) by omega]; exact h
/-- what a pass leaves alone -/
def FrP (σ u : SS) : Prop := FrA (sI σ 31 (u.1 31)) u
theorem FrP.refl (σ : SS) : FrP σ σ := by
  unfold FrP
  rw [sI_self]; exact FrA.refl σ
theorem fra31 {σ u : SS} {y : Int32} (h : FrA (sI σ 31 y) u) (z : Int32) : FrA (sI σ 31 z) (sI u 31 z) := by
  obtain ⟨h1, h2, h3, h4, h5, h6⟩ := h
  refine ⟨fun k a1 a2 a3 a4 a5 a6 a7 a8 a9 => ?_, h2, h3, h4, fun e => ?_, fun e => ?_⟩
  · have := h1 k a1 a2 a3 a4 a5 a6 a7 a8 a9
    rw [sI_1] at this
    rw [sI_1, sI_1]
    by_cases c : k = 31
    · rw [if_pos c, if_pos c]
    · rw [if_neg c] at this
      rw [if_neg c, if_neg c]; exact this
  · exact h5 e
  · exact h6 e
theorem FrP.tr {σ u w : SS} {z : Int32} (h : FrP σ u) (g : FrA (sI u 31 z) w) : FrP σ w := by
  have e : w.1 31 = z := g.1 31 (by omega) (by omega) (by omega) (by omega) (by omega) (by omega) (by omega) (by omega) (by omega)
  unfold FrP
  rw [e]
  exact (fra31 h z).trans g
/-- the class at the end of a text -/
def TxC (σ u : SS) (lb : Lb) (ws : Ws) : Prop := FrP σ u ∧ u.1 32 = nI 0 ∧ LbC u lb ∧ MdC u ws ∧ u.1 33 = σ.1 33
def FxC (σ u : SS) (f k : Nat) : Prop := FrP σ u ∧ u.1 32 = nI f ∧ u.1 33 = nI k ∧ 0 < f ∧ f < 8
theorem c_goL {σ0 : SS} {p cnt : Nat} {post : SS → Prop} (hp : p ≤ 1) (hc : cnt ≤ 6001) : ∀ (ls : List (List Tk)) (σ : SS) (lb : Lb) (loc : Nat) (ws : Ws) (k c : Nat), (∀ l ∈ ls, ∀ t ∈ l, okT t) → σ.1 35 = nI cnt → c + (fl ls).length = cnt → ItC σ c (fl ls) → FrP σ0 σ → σ.1 32 = nI 0 → LbC σ lb → σ.1 30 = nI loc → loc ≤ 32768 → σ.1 31 = nI k → MdC σ ws → σ.1 33 = σ0.1 33 → 2 * ws.length ≤ c → Pre p lb loc ls →
    ((txG p lb loc ws k ls).1 = 0 → ∀ u, TxC σ0 u (txG p lb loc ws k ls).2.2.1 (txG p lb loc ws k ls).2.2.2.2 → post u) → (∀ f, f = (txG p lb loc ws k ls).1 → f ≠ 0 → ∀ u, FxC σ0 u f (txG p lb loc ws k ls).2.1 → post u) → f_A_goThrough_14 post ((fl ls).length + 1) σ (nI p) (nI c) (nI c) := by
  intro ls
  induction ls with
  | nil =>
    intro σ lb loc ws k c _ h35 hcn _ hf h32 hL h30 hl h31 hM h33 _ _ h1 _
    have hcn' : c = cnt := hcn
    rw [f_A_goThrough_14, h35]
    exact b_t (by rw [q_le (by omega) (by omega)]; omega) (h1 rfl σ ⟨hf, h32, hL, hM, h33⟩)
  | cons l r ih =>
    intro σ lb loc ws k c ho h35 hcn hI hf h32 hL h30 hl h31 hM h33 h2w hP h1 h2
    have efl : fl (l :: r) = l.map itC ++ (10 :: fl r) := rfl
    rw [efl] at hI hcn ⊢
    rw [List.length_append, List.length_map, List.length_cons] at hcn ⊢
    have okl := ho l List.mem_cons_self
    have xt : σ.2.2.2 13 (c + l.length) = jI 10 := by
      have := (ItC.tl hI) 0 (by simp)
      rw [List.length_map, Nat.add_zero] at this
      exact this
    have xh : ∀ j, j < l.length → σ.2.2.2 13 (c + j) = jI (itC (l.getD j (0, 0, []))) := by
      intro j hj
      rw [hI.hd (by rw [List.length_map]; exact hj), getD_map hj]
    have xr : ItC σ (c + l.length + 1) (fl r) := by
      have := ItC.tl hI
      rw [List.length_map] at this
      intro i hi
      have := this (i + 1) (by rw [List.length_cons]; omega)
      rw [show c + l.length + (i + 1) = c + l.length + 1 + i by omega] at this
      exact this
    rw [show l.length + ((fl r).length + 1) + 1 = ((fl r).length + 2) + l.length by omega]
    refine c_scan h35 hc h32 l _ c okl (by omega) xh ?_
    rw [f_A_goThrough_14, h35]
    refine b_f (by rw [q_le (by omega) (by omega)]; omega) (b_t h32 (c_kdI h35 hc (by omega) xt (b_t rfl ?_)))
    simp only [nm]
    have e31 : σ.1 31 + 1 = nI (k + 1) := by rw [h31]; exact q_add k 1
    rw [e31]
    have hv : LivC (sI (sI σ 31 (nI (k + 1))) 29 (nI c)) lb loc := ⟨h32, ⟨ws.length, hM.1, hM.2.1⟩, hL, h30⟩
    have hA : AtC (sI (sI σ 31 (nI (k + 1))) 29 (nI c)) l := ⟨okl, c, cnt, rfl, h35, hc, by omega, xh, xt⟩
    have hM' : MdC (sI (sI σ 31 (nI (k + 1))) 29 (nI c)) ws := hM
    have base : ∀ w, FrA (sI (sI σ 31 (nI (k + 1))) 29 (nI c)) w → FrP σ0 w := fun w g => hf.tr (((FrA.refl (sI σ 31 (nI (k + 1)))).sI (k := 29) (by omega) (nI c)).trans g)
    rw [txG_c] at h1 h2
    refine c_line hp hl hA hv hM' ?_ (fun z w hw => ?_) (fun f ef nf w hw => ?_)
    · intro p0 t r' e w
      refine ⟨hP.hw p0 t r' e w, ?_⟩
      cases l with
      | nil =>
        exfalso
        have : (labs p loc lb []).2.2 = [] := rfl
        rw [this] at e
        cases e
      | cons a b =>
        rw [List.length_cons] at hcn
        omega
    · rw [if_pos z] at h1 h2
      obtain ⟨g1, g2, g3, g4, g5, g6⟩ := hw
      obtain ⟨pn, ln⟩ := Pre.nx hp hl hP z
      simp only [f_A_goThrough_69, nm]
      rw [show nI (c + l.length) + 1 = nI (c + l.length + 1) from q_add _ 1]
      have w35 : w.1 35 = nI cnt := by rw [g1.1 35 (by omega) (by omega) (by omega) (by omega) (by omega) (by omega) (by omega) (by omega) (by omega)]; exact h35
      have w31 : w.1 31 = nI (k + 1) := g1.1 31 (by omega) (by omega) (by omega) (by omega) (by omega) (by omega) (by omega) (by omega) (by omega)
      refine ih w _ _ _ (k + 1) (c + l.length + 1) (fun l' hl' => ho l' (List.mem_cons_of_mem _ hl')) w35 (by omega) (xr.fr ?_) (base w g1) g2 g3 g4 ln w31 g5 (g6.trans h33) ?_ pn h1 h2
      · exact g1.2.2.2.1 13 (by omega) (by omega)
      · have := ln_ws (p := p) (lb := lb) (loc := loc) (l := l)
        rw [List.length_append]
        omega
    · rw [if_neg (by omega)] at h2
      have fx : FxC σ0 w f (k + 1) := ⟨base w hw.2.2.2.1, hw.2.1, hw.2.2.1, hw.2.2.2.2⟩
      simp only [f_A_goThrough_69, nm]
      rw [f_A_goThrough_14]
      exact b_c (fun _ => h2 f ef nf w fx) (fun _ => b_f hw.ne (h2 f ef nf w fx))
/-- a pass -/
theorem c_go {σ : SS} {p cnt : Nat} {ls : List (List Tk)} {lb : Lb} {ws : Ws} {post : SS → Prop} (hp : p ≤ 1) (hc : cnt ≤ 6001) (ho : ∀ l ∈ ls, ∀ t ∈ l, okT t) (h35 : σ.1 35 = nI cnt) (hcn : (fl ls).length = cnt) (hI : ItC σ 0 (fl ls)) (h32 : σ.1 32 = nI 0) (hL : LbC σ lb) (hM : MdC σ ws) (hw : ws = []) (hP : Pre p lb 0 ls)
    (h1 : (txG p lb 0 ws 0 ls).1 = 0 → ∀ u, TxC σ u (txG p lb 0 ws 0 ls).2.2.1 (txG p lb 0 ws 0 ls).2.2.2.2 → post u) (h2 : ∀ f, f = (txG p lb 0 ws 0 ls).1 → f ≠ 0 → ∀ u, FxC σ u f (txG p lb 0 ws 0 ls).2.1 → post u) : f_A_goThrough post σ (nI p) := by
  simp only [f_A_goThrough, nm]
  refine ⟨(fl ls).length + 1, ?_⟩
  have fp : FrP σ (sI (sI σ 30 0) 31 0) := by
    unfold FrP
    show FrA (sI σ 31 0) (sI (sI σ 30 0) 31 0)
    rw [sI_c _ _ _ (by omega)]
    exact (FrA.refl _).sI (by omega) _
  refine c_goL hp hc ls (sI (sI σ 30 0) 31 0) lb 0 ws 0 0 ho h35 (by omega) (hI.fr rfl) fp h32 hL rfl (by omega) rfl hM rfl (by rw [hw]; exact Nat.le_refl _) hP h1 h2
/-- no pass behind a fault -/
theorem s_go {σ : SS} {x : Int32} {post : SS → Prop} (h32 : σ.1 32 ≠ nI 0) (h : post (sI (sI σ 30 0) 31 0)) : f_A_goThrough post σ x := by
  simp only [f_A_goThrough, nm]
  refine ⟨1, ?_⟩
  rw [f_A_goThrough_14]
  exact b_c (fun _ => h) (fun _ => b_f h32 h)
