/-! the pure side: expressions -/
def sg (m v : Nat) : Int32 := if m = 1 then -(nI v) else nI v
/-- an expression from a term on: its fault, its sum, what stands behind it -/
def exT (lb : Lb) (loc : Nat) : List Tk → Nat → Int32 → Nat × Int32 × List Tk
  | [], _, acc => (2, acc, [])
  | [t], m, acc => if tmF lb loc t = 0 then (0, acc + sg m (tmV lb loc t), []) else (tmF lb loc t, acc, [])
  | t :: s :: r, m, acc => if tmF lb loc t = 0 then (if s.1 = 1 then (1, acc, s :: r) else if s.1 = 45 then exT lb loc r 1 (acc + sg m (tmV lb loc t)) else if s.1 = 43 then exT lb loc r 0 (acc + sg m (tmV lb loc t)) else (0, acc + sg m (tmV lb loc t), s :: r)) else (tmF lb loc t, acc, s :: r)
def exE (lb : Lb) (loc : Nat) (ts : List Tk) : Nat × Int32 × List Tk := match ts with
  | [] => (2, 0, [])
  | t :: r => if t.1 = 45 then exT lb loc r 1 0 else if t.1 = 43 then exT lb loc r 0 0 else exT lb loc (t :: r) 0 0
theorem tk_len {σ : SS} {ts : List Tk} (h : AtC σ ts) : ts.length ≤ 6000 := by
  obtain ⟨_, a, cnt, h2, h3, h4, h5, _⟩ := h
  omega
theorem s_22 {σ : SS} {post : Int32 → SS → Prop} (hf : σ.1 32 ≠ nI 0) (h : ∀ r u, r < 65536 → Saf σ u → post (nI r) u) : ∀ k i (x1 x2 : Int32) u, i + k = 6000 → Saf σ u → f_A_readExpression_22 post (k + 1) u x1 x2 (nI i) := by
  have fin : ∀ (x : Int32) u, Saf σ u → post (x &&& 65535) u := by
    intro x u hu
    obtain ⟨n, hn, rfl⟩ := n_of x
    rw [q_lit, q_and, q_a16]
    exact h _ u (by omega) hu
  intro k
  induction k with
  | zero =>
    intro i x1 x2 u hi hu
    rw [f_A_readExpression_22]
    exact b_t (by rw [q_lit, q_le (by omega) (by omega)]; omega) (fin _ _ hu)
  | succ k ih =>
    intro i x1 x2 u hik hu
    rw [f_A_readExpression_22]
    refine b_f (by rw [q_lit, q_le (by omega) (by omega)]; omega) (s_term (by rw [hu.2.1]; exact hf) hu.1 (fun r v hv => ?_))
    have hv2 := hu.trans hv
    have e48 : ∀ s0 s1 : Int32, f_A_readExpression_48 post (f_A_readExpression_22 post (k + 1)) v (nI i) s0 s1 := by
      intro s0 s1
      simp only [f_A_readExpression_48, nm]
      have e73 : ∀ (r4 : Int32) w, Saf σ w → f_A_readExpression_73 post (f_A_readExpression_22 post (k + 1)) w r4 (s1 + s0) (nI i) := by
        intro r4 w hw
        simp only [f_A_readExpression_73, nm]
        rw [show nI i + 1 = nI (i + 1) from q_add i 1]
        exact ih (i + 1) _ _ w (by omega) hw
      refine s_takes (c := 45) (by rw [hv2.2.1]; exact hf) hv2.1 (by omega) (by omega) (fun r4 w _ hw => b_c (fun _ => ?_) (fun _ => e73 _ _ (hv2.trans hw)))
      have hw2 := hv2.trans hw
      exact s_takes (c := 43) (by rw [hw2.2.1]; exact hf) hw2.1 (by omega) (by omega) (fun r6 y _ hy => b_c (fun _ => fin _ _ (hw2.trans hy)) (fun _ => e73 _ _ (hw2.trans hy)))
    exact b_c (fun _ => e48 _ _) (fun _ => e48 _ _)
theorem s_48 {σ : SS} {post : Int32 → SS → Prop} (hf : σ.1 32 ≠ nI 0) (hi : InvC σ) (h : ∀ r u, r < 65536 → Saf σ u → post (nI r) u) (k i : Nat) (s0 s1 : Int32) (hk : i + (k + 1) = 6000) : f_A_readExpression_48 post (f_A_readExpression_22 post (k + 1)) σ (nI i) s0 s1 := by
  have fin : ∀ (x : Int32) u, Saf σ u → post (x &&& 65535) u := by
    intro x u hu
    obtain ⟨n, hn, rfl⟩ := n_of x
    rw [q_lit, q_and, q_a16]
    exact h _ u (by omega) hu
  simp only [f_A_readExpression_48, nm]
  have e73 : ∀ (r4 : Int32) w, Saf σ w → f_A_readExpression_73 post (f_A_readExpression_22 post (k + 1)) w r4 (s1 + s0) (nI i) := by
    intro r4 w hw
    simp only [f_A_readExpression_73, nm]
    rw [show nI i + 1 = nI (i + 1) from q_add i 1]
    exact s_22 hf h k (i + 1) _ _ w (by omega) hw
  refine s_takes (c := 45) hf hi (by omega) (by omega) (fun r4 w _ hw => b_c (fun _ => ?_) (fun _ => e73 _ _ hw))
  exact s_takes (c := 43) (by rw [hw.2.1]; exact hf) hw.1 (by omega) (by omega) (fun r6 y _ hy => b_c (fun _ => fin _ _ (hw.trans hy)) (fun _ => e73 _ _ (hw.trans hy)))
theorem c_exT {σ0 : SS} {lb : Lb} {loc : Nat} {post : Int32 → SS → Prop} (hl : loc < 65536) (k : Nat) : ∀ (ts : List Tk) (σ : SS) (m i : Nat) (acc : Int32), ts.length ≤ k → 2 * i + ts.length ≤ 6001 → m ≤ 1 → AdvC σ0 σ ts → LivC σ lb loc → ((exT lb loc ts m acc).1 = 0 → ∀ u, AdvC σ0 u (exT lb loc ts m acc).2.2 → post ((exT lb loc ts m acc).2.1 &&& 65535) u) → (∀ f, f = (exT lb loc ts m acc).1 → ∀ r u, r < 65536 → FltC σ0 f u → post (nI r) u) → f_A_readExpression_22 post (6001 - i) σ (nI m) acc (nI i) := by
  induction k using Nat.strongRecOn with
  | _ k IH =>
  intro ts σ m i acc hk hi hm ha hv h1 h2
  have h31 : σ0.1 31 = σ.1 31 := by obtain ⟨⟨x, rfl⟩, _⟩ := ha; rfl
  have hfr : FrA σ0 σ := ha.fr
  have up : ∀ f u, FltC σ f u → FltC σ0 f u := fun f u g => ⟨g.1, g.2.1, by rw [h31]; exact g.2.2.1, hfr.trans g.2.2.2.1, g.2.2.2.2⟩
  obtain ⟨n, hn⟩ : ∃ n, 6001 - i = n + 2 := ⟨5999 - i, by omega⟩
  have s48 : ∀ (s0 s1 : Int32) (u : SS) (f : Nat), f = (exT lb loc ts m acc).1 → FltC σ f u → f_A_readExpression_48 post (f_A_readExpression_22 post (n + 1)) u (nI i) s0 s1 := by
    intro s0 s1 u f e1 hu
    exact s_48 hu.ne hu.1 (fun r w hr hw => h2 f e1 r w hr (up f w (hu.saf hw))) n i s0 s1 (by omega)
  have term : ∀ t r, ts = t :: r → tmF lb loc t = 0 → ∀ u, AdvC σ u r → (r = [] → (exT lb loc ts m acc) = (0, acc + sg m (tmV lb loc t), [])) → ∀ s0, s0 = sg m (tmV lb loc t) → f_A_readExpression_48 post (f_A_readExpression_22 post (n + 1)) u (nI i) s0 acc := by
    intro t r ets htm u hu hnil s0 hs0
    subst hs0
    have hv' : LivC u lb loc := hv.adv hu
    have hu0 : AdvC σ0 u r := ha.trans hu
    have h31u : u.1 31 = σ.1 31 := by obtain ⟨⟨x, rfl⟩, _⟩ := hu; rfl
    have hfu : FrA σ u := hu.fr
    have inv : InvC u := hu.2.inv hv'.2.1 hv'.2.2.1
    have upu : ∀ f w, FltC u f w → FltC σ f w := fun f w g => ⟨g.1, g.2.1, by rw [← h31u]; exact g.2.2.1, hfu.trans g.2.2.2.1, g.2.2.2.2⟩
    simp only [f_A_readExpression_48, nm]
    -- a further term
    have more : ∀ (m' : Nat) s r', r = s :: r' → m' ≤ 1 → (exT lb loc ts m acc) = exT lb loc r' m' (acc + sg m (tmV lb loc t)) → ∀ w, AdvC u w r' → f_A_readExpression_73 post (f_A_readExpression_22 post (n + 1)) w (nI m') (acc + sg m (tmV lb loc t)) (nI i) := by
      intro m' s r' er hm' ee w hw
      simp only [f_A_readExpression_73, nm]
      rw [show nI i + 1 = nI (i + 1) from q_add i 1, show n + 1 = 6001 - (i + 1) by omega]
      have hlen : ts.length = r'.length + 2 := by rw [ets, er]; rfl
      refine IH (k - 1) (by omega) r' w m' (i + 1) _ (by omega) (by omega) hm' (hu0.trans hw) (hv'.adv hw) ?_ ?_
      · rw [← ee]; exact h1
      · rw [← ee]; exact h2
    have done : (exT lb loc ts m acc) = (0, acc + sg m (tmV lb loc t), r) → post ((acc + sg m (tmV lb loc t)) &&& 65535) u := by
      intro ee
      rw [ee] at h1
      exact h1 rfl u hu0
    refine c_takes (c := 45) hu.2 hv'.1 (by omega) (by omega) (fun z => b_t rfl ?_) (fun s r' er es w hw => b_f (by decide) ?_) (fun s r' er es => b_t rfl ?_)
    · refine c_takes (c := 43) hu.2 hv'.1 (by omega) (by omega) (fun y => b_t rfl ?_) (fun s r' er es w hw => b_f (by decide) ?_) (fun s r' er es => ?_)
      · refine done ?_
        rcases z with z | ⟨s, r', er, z1, z2⟩
        · rw [hnil z, z]
        · rcases y with y | ⟨s', r'', er', y1, y2⟩
          · rw [er] at y; cases y
          · rw [er] at er'
            cases er'
            rw [ets, er]
            unfold exT
            rw [if_pos htm, if_neg z2, if_neg z1, if_neg y1]
      · refine more 0 s r' er (by omega) ?_ w hw
        rw [ets, er]
        conv => lhs; unfold exT
        rw [if_pos htm, if_neg (by omega), if_neg (by omega), if_pos es]
      · rcases z with z | ⟨s', r'', er', z1, z2⟩
        · rw [er] at z; cases z
        · rw [er] at er'
          cases er'
          exact absurd es z2
    · refine more 1 s r' er (by omega) ?_ w hw
      rw [ets, er]
      conv => lhs; unfold exT
      rw [if_pos htm, if_neg (by omega), if_pos es]
    · -- an item that is none behind the term
      have e1 : (exT lb loc ts m acc).1 = 1 := by
        rw [ets, er]
        unfold exT
        rw [if_pos htm, if_pos es]
      have fl := c_flt (σ := u) (f := 1) inv (by omega)
      have fin : ∀ (x : Int32) w, Saf (sI (sI u 32 (nI 1)) 33 (u.1 31)) w → post (x &&& 65535) w := by
        intro x w hw
        obtain ⟨q, hq, rfl⟩ := n_of x
        rw [q_lit, q_and, q_a16]
        exact h2 1 e1.symm _ w (by omega) (up _ _ (upu _ _ (fl.saf hw)))
      refine s_takes (c := 43) fl.ne fl.1 (by omega) (by omega) (fun r6 w _ hw => b_c (fun _ => fin _ _ hw) (fun _ => ?_))
      simp only [f_A_readExpression_73, nm]
      rw [show nI i + 1 = nI (i + 1) from q_add i 1]
      exact s_22 (σ := sI (sI u 32 (nI 1)) 33 (u.1 31)) fl.ne (fun r w' hr hw' => h2 1 e1.symm r w' hr (up _ _ (upu _ _ (fl.saf hw')))) n (i + 1) _ _ w (by omega) hw
  rw [hn, f_A_readExpression_22]
  refine b_f (by rw [q_lit, q_le (by omega) (by omega)]; omega) ?_
  have hm01 : m = 0 ∨ m = 1 := by omega
  refine c_term ha.2 hv hl (fun t r ets htm u hu => ?_) (fun f hf r u hu => ?_)
  · have hnil : r = [] → (exT lb loc ts m acc) = (0, acc + sg m (tmV lb loc t), []) := by
      intro z
      rw [ets, z]
      unfold exT
      rw [if_pos htm]
    rcases hm01 with z | z
    · rw [z]
      exact b_t rfl (term t r ets htm u hu hnil _ (by unfold sg; rw [if_neg (by omega)]))
    · rw [z]
      exact b_f (by decide) (term t r ets htm u hu hnil _ (by unfold sg; rw [if_pos z]))
  · have ef : f = (exT lb loc ts m acc).1 := by
      rcases hf with ⟨z, e⟩ | ⟨t, r', z, e, e2⟩
      · rw [z]; unfold exT; exact e
      · rw [z]
        cases r' with
        | nil => unfold exT; rw [if_neg (by omega)]; exact e
        | cons s r'' => unfold exT; rw [if_neg (by omega)]; exact e
    exact b_c (fun _ => s48 _ _ u f ef hu) (fun _ => s48 _ _ u f ef hu)
theorem c_expr {σ : SS} {ts : List Tk} {lb : Lb} {loc : Nat} {post : Int32 → SS → Prop} (hl : loc < 65536) (h : AtC σ ts) (hv : LivC σ lb loc) (h1 : (exE lb loc ts).1 = 0 → ∀ u, AdvC σ u (exE lb loc ts).2.2 → post ((exE lb loc ts).2.1 &&& 65535) u) (h2 : ∀ f, f = (exE lb loc ts).1 → ∀ r u, r < 65536 → FltC σ f u → post (nI r) u) : f_A_readExpression post σ := by
  have inv : InvC σ := h.inv hv.2.1 hv.2.2.1
  have tl := tk_len h
  have go : ∀ (ts' : List Tk) (m : Nat) u, m ≤ 1 → ts'.length ≤ 6000 → AdvC σ u ts' → exE lb loc ts = exT lb loc ts' m 0 → f_A_readExpression_18 post u (nI m) := by
    intro ts' m u hm hl' hu ee
    rw [ee] at h1 h2
    exact ⟨6001 - 0, c_exT hl ts'.length ts' u m 0 0 (by omega) (by omega) hm hu (hv.adv hu) h1 h2⟩
  simp only [f_A_readExpression]
  refine c_takes (c := 45) h hv.1 (by omega) (by omega) (fun z => b_t rfl ?_) (fun t r er et u hu => b_f (by decide) ?_) (fun t r er et => b_t rfl ?_)
  · refine c_takes (c := 43) h hv.1 (by omega) (by omega) (fun y => ?_) (fun t r er et u hu => ?_) (fun t r er et => ?_)
    · refine go ts 0 σ (by omega) tl (AdvC.refl h) ?_
      rcases z with z | ⟨t, r, er, z1, z2⟩
      · rw [z]; unfold exE exT; rfl
      · rcases y with y | ⟨t', r', er', y1, y2⟩
        · rw [er] at y; cases y
        · rw [er] at er'
          cases er'
          rw [er]
          show (if t.1 = 45 then _ else if t.1 = 43 then _ else _) = _
          rw [if_neg z1, if_neg y1]
    · refine go r 0 u (by omega) (by rw [er, List.length_cons] at tl; omega) hu ?_
      rw [er]
      show (if t.1 = 45 then _ else if t.1 = 43 then _ else _) = _
      rw [if_neg (by omega), if_pos et]
    · rcases z with z | ⟨t', r', er', z1, z2⟩
      · rw [er] at z; cases z
      · rw [er] at er'
        cases er'
        exact absurd et z2
  · refine go r 1 u (by omega) (by rw [er, List.length_cons] at tl; omega) hu ?_
    rw [er]
    show (if t.1 = 45 then _ else if t.1 = 43 then _ else _) = _
    rw [if_pos et]
  · have e1 : (exE lb loc ts).1 = 1 := by
      rw [er]
      show (if t.1 = 45 then _ else if t.1 = 43 then _ else _ : Nat × Int32 × List Tk).1 = 1
      rw [if_neg (by omega), if_neg (by omega)]
      have tm : tmF lb loc t = 1 := by unfold tmF; rw [if_pos et]
      cases r with
      | nil => unfold exT; rw [if_neg (by omega)]; exact tm
      | cons s r' => unfold exT; rw [if_neg (by omega)]; exact tm
    have fl := c_flt (σ := σ) (f := 1) inv (by omega)
    refine s_takes (c := 43) fl.ne fl.1 (by omega) (by omega) (fun r6 w _ hw => ?_)
    exact ⟨6001, s_22 (σ := sI (sI σ 32 (nI 1)) 33 (σ.1 31)) fl.ne (fun r w' hr hw' => h2 1 e1.symm r w' hr (fl.saf hw')) 6000 0 _ _ w (by omega) hw⟩
