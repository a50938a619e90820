/-! the pure side: a statement's operands, the class -/
def vN (x : Int32) : Nat := (x &&& 65535).toNatClampNeg
theorem vN_e (x : Int32) : x &&& 65535 = nI (vN x) ∧ vN x < 65536 := by
  obtain ⟨n, hn, rfl⟩ := n_of x
  unfold vN
  rw [q_lit, q_and, q_a16, q_cl (by omega)]
  exact ⟨rfl, by omega⟩
def nbT (ts : List Tk) : Prop := ∀ s r, ts = s :: r → s.1 ≠ 1
theorem nbT_nil : nbT [] := fun s r e => by cases e
theorem exR_c (lb : Lb) (loc : Nat) (s : Tk) (r : List Tk) (acc : Int32) : exR lb loc (s :: r) acc = if s.1 = 1 then (1, acc, s :: r) else if s.1 = 45 then exT lb loc r 1 acc else if s.1 = 43 then exT lb loc r 0 acc else (0, acc, s :: r) := rfl
theorem exT_nb {lb : Lb} {loc : Nat} (k : Nat) : ∀ (ts : List Tk) (m : Nat) (acc : Int32), ts.length ≤ k → (exT lb loc ts m acc).1 = 0 → nbT (exT lb loc ts m acc).2.2 := by
  induction k using Nat.strongRecOn with
  | _ k IH =>
  intro ts m acc hk h0
  match ts, hk, h0 with
  | [], _, h0 => unfold exT at h0; exact absurd (show (2 : Nat) = 0 from h0) (by omega)
  | [t], _, h0 =>
    unfold exT at h0 ⊢
    by_cases z : tmF lb loc t = 0
    · rw [if_pos z]; exact nbT_nil
    · rw [if_neg z] at h0; exact absurd h0 z
  | t :: s :: r, hk, h0 =>
    rw [List.length_cons, List.length_cons] at hk
    by_cases z : tmF lb loc t = 0
    · by_cases b : s.1 = 1
      · rw [exT_R1 z b] at h0; exact absurd (show (1 : Nat) = 0 from h0) (by omega)
      · rw [exT_R2 z (fun s' r' e => by cases e; exact b), exR_c, if_neg b] at h0 ⊢
        by_cases c1 : s.1 = 45
        · rw [if_pos c1] at h0 ⊢
          exact IH r.length (by omega) r _ _ (by omega) h0
        · rw [if_neg c1] at h0 ⊢
          by_cases c2 : s.1 = 43
          · rw [if_pos c2] at h0 ⊢
            exact IH r.length (by omega) r _ _ (by omega) h0
          · rw [if_neg c2] at h0 ⊢
            intro s' r' e
            cases e
            exact b
    · have := exT_F (m := m) (acc := acc) (ts := t :: s :: r) (lb := lb) (loc := loc) (Or.inr ⟨t, s :: r, rfl, rfl, z⟩)
      omega
theorem exE_c (lb : Lb) (loc : Nat) (t : Tk) (r : List Tk) : exE lb loc (t :: r) = if t.1 = 45 then exT lb loc r 1 0 else if t.1 = 43 then exT lb loc r 0 0 else exT lb loc (t :: r) 0 0 := rfl
theorem exE_nb {lb : Lb} {loc : Nat} {ts : List Tk} (h0 : (exE lb loc ts).1 = 0) : nbT (exE lb loc ts).2.2 := by
  cases ts with
  | nil => exact absurd (show (2 : Nat) = 0 from h0) (by omega)
  | cons t r =>
    rw [exE_c] at h0 ⊢
    by_cases c1 : t.1 = 45
    · rw [if_pos c1] at h0 ⊢; exact exT_nb _ _ _ _ (Nat.le_refl _) h0
    · rw [if_neg c1] at h0 ⊢
      by_cases c2 : t.1 = 43
      · rw [if_pos c2] at h0 ⊢; exact exT_nb _ _ _ _ (Nat.le_refl _) h0
      · rw [if_neg c2] at h0 ⊢; exact exT_nb _ _ _ _ (Nat.le_refl _) h0
/-- an operand: its fault, whether '@' stands before it, its number, what stands behind it -/
def opE (lb : Lb) (loc a : Nat) (ts : List Tk) : Nat × Nat × Int32 × List Tk := match ts with
  | [] => ((exE lb loc []).1, 0, (exE lb loc []).2.1, (exE lb loc []).2.2)
  | t :: r => if a = 1 ∧ t.1 = 64 then ((exE lb loc r).1, 1, (exE lb loc r).2.1, (exE lb loc r).2.2) else ((exE lb loc (t :: r)).1, 0, (exE lb loc (t :: r)).2.1, (exE lb loc (t :: r)).2.2)
theorem opE_0 {lb : Lb} {loc a : Nat} {ts : List Tk} (h : ∀ t r, ts = t :: r → ¬ (a = 1 ∧ t.1 = 64)) : opE lb loc a ts = ((exE lb loc ts).1, 0, (exE lb loc ts).2.1, (exE lb loc ts).2.2) := by
  cases ts with
  | nil => rfl
  | cons t r =>
    show (if a = 1 ∧ t.1 = 64 then _ else _) = _
    rw [if_neg (h t r rfl)]
theorem opE_1 {lb : Lb} {loc a : Nat} {t : Tk} {r : List Tk} (h : a = 1 ∧ t.1 = 64) : opE lb loc a (t :: r) = ((exE lb loc r).1, 1, (exE lb loc r).2.1, (exE lb loc r).2.2) := by
  show (if a = 1 ∧ t.1 = 64 then _ else _) = _
  rw [if_pos h]
theorem opE_nb {lb : Lb} {loc a : Nat} {ts : List Tk} (h : (opE lb loc a ts).1 = 0) : nbT (opE lb loc a ts).2.2.2 := by
  cases ts with
  | nil => exact exE_nb h
  | cons t r =>
    by_cases c : a = 1 ∧ t.1 = 64
    · rw [opE_1 c] at h ⊢; exact exE_nb h
    · rw [opE_0 (fun t' r' e => by cases e; exact c)] at h ⊢; exact exE_nb h
def fiO (le : Nat) (ts : List Tk) (ind : Nat) (vs : List Nat) : Nat × Nat × List Nat := (if vs.length < le ∨ ts ≠ [] then 2 else 0, ind, vs)
def rdM (le : Nat) (K : Nat → List Tk → Nat → List Nat → Nat × Nat × List Nat) (n i : Nat) (ts : List Tk) (ind : Nat) (vs : List Nat) : Nat × Nat × List Nat := if n = 0 then fiO le ts ind vs else match ts with
  | [] => fiO le [] ind vs
  | t :: r => if t.1 = 44 then K (i + 1) r ind vs else fiO le (t :: r) ind vs
/-- operands: their fault, whether '@' stood there, their numbers -/
def rdO (lb : Lb) (loc ad le : Nat) : Nat → Nat → List Tk → Nat → List Nat → Nat × Nat × List Nat
  | 0, _, ts, ind, vs => fiO le ts ind vs
  | n + 1, i, ts, ind, vs => if (opE lb loc (if i = ad then 1 else 0) ts).1 = 0 then rdM le (rdO lb loc ad le n) n i (opE lb loc (if i = ad then 1 else 0) ts).2.2.2 (ind + (opE lb loc (if i = ad then 1 else 0) ts).2.1) (vs ++ [vN (opE lb loc (if i = ad then 1 else 0) ts).2.2.1]) else ((opE lb loc (if i = ad then 1 else 0) ts).1, ind, vs)
theorem rdO_s (lb : Lb) (loc ad le n i : Nat) (ts : List Tk) (ind : Nat) (vs : List Nat) : rdO lb loc ad le (n + 1) i ts ind vs = if (opE lb loc (if i = ad then 1 else 0) ts).1 = 0 then rdM le (rdO lb loc ad le n) n i (opE lb loc (if i = ad then 1 else 0) ts).2.2.2 (ind + (opE lb loc (if i = ad then 1 else 0) ts).2.1) (vs ++ [vN (opE lb loc (if i = ad then 1 else 0) ts).2.2.1]) else ((opE lb loc (if i = ad then 1 else 0) ts).1, ind, vs) := rfl
/-- what reading a statement leaves alone -/
def FrO (σ u : SS) : Prop := (∀ k, k ≠ 27 → k ≠ 28 → k ≠ 29 → u.1 k = σ.1 k) ∧ (∀ k, k ≠ 22 → u.2.1 k = σ.2.1 k) ∧ u.2.2 = σ.2.2
theorem FrO.refl (σ : SS) : FrO σ σ := ⟨fun _ _ _ _ => rfl, fun _ _ => rfl, rfl⟩
theorem FrO.trans {a b c : SS} (h : FrO a b) (g : FrO b c) : FrO a c := ⟨fun k h1 h2 h3 => (g.1 k h1 h2 h3).trans (h.1 k h1 h2 h3), fun k h1 => (g.2.1 k h1).trans (h.2.1 k h1), g.2.2.trans h.2.2⟩
theorem FrO.sI {a b : SS} (h : FrO a b) {k : Nat} (hk : k = 27 ∨ k = 28 ∨ k = 29) (v : Int32) : FrO a (sI b k v) := ⟨fun j h1 h2 h3 => by rw [sI_1, if_neg (by omega)]; exact h.1 j h1 h2 h3, h.2⟩
theorem FrO.sA {a b : SS} (h : FrO a b) (i : Nat) (v : Int32) : FrO a (sA b 22 i v) := ⟨h.1, fun j h1 => by rw [sA_2, if_neg h1]; exact h.2.1 j h1, h.2.2⟩
theorem FrO.fr {σ u : SS} (h : FrO σ u) : FrA σ u := ⟨fun k a1 a2 a3 a4 a5 a6 a7 a8 a9 => h.1 k a2 a3 a4, fun k a1 a2 a3 a4 a5 => h.2.1 k a5, by rw [h.2.2], fun k a1 a2 => by rw [h.2.2], fun z => ⟨h.1 38 (by omega) (by omega) (by omega), h.2.1 19 (by omega), by rw [h.2.2]⟩, fun z => ⟨h.1 37 (by omega) (by omega) (by omega), h.2.1 16 (by omega), by rw [h.2.2]⟩⟩
theorem AdvC.fro {σ u : SS} {ts : List Tk} (h : AdvC σ u ts) : FrO σ u := by
  obtain ⟨⟨x, rfl⟩, _⟩ := h
  exact (FrO.refl _).sI (by omega) _
theorem LivC.fro {σ u : SS} {lb : Lb} {loc : Nat} (h : LivC σ lb loc) (f : FrO σ u) : LivC u lb loc := by
  obtain ⟨h1, h2, h3, h4⟩ := h
  obtain ⟨f1, f2, f3⟩ := f
  refine ⟨by rw [f1 32 (by omega) (by omega) (by omega)]; exact h1, by rw [f1 26 (by omega) (by omega) (by omega)]; exact h2, ?_, by rw [f1 30 (by omega) (by omega) (by omega)]; exact h4⟩
  unfold LbC at h3 ⊢
  rw [f1 25 (by omega) (by omega) (by omega), f1 37 (by omega) (by omega) (by omega), f1 38 (by omega) (by omega) (by omega), f2 16 (by omega), f2 19 (by omega), f3]
  exact h3
theorem FltC.fro {σ u v : SS} {f : Nat} (g : FrO σ u) (h : FltC u f v) : FltC σ f v := ⟨h.1, h.2.1, by rw [h.2.2.1, g.1 31 (by omega) (by omega) (by omega)], g.fr.trans h.2.2.2.1, h.2.2.2.2⟩
/-- operands as the class keeps them -/
def OpV (σ : SS) (ind : Nat) (vs : List Nat) : Prop := σ.1 28 = nI ind ∧ σ.1 27 = nI vs.length ∧ ∀ j, j < vs.length → σ.2.1 22 j = nI (vs.getD j 0) ∧ vs.getD j 0 < 65536
theorem c_147 {σ : SS} {e c loc : Nat} {lb : Lb} {ts : List Tk} {r : Int32} {post : Int32 → SS → Prop} (he : e < 35) (hA : AtC σ ts) (hv : LivC σ lb loc) (nb : nbT ts) (h27 : σ.1 27 = nI c) (hc : c ≤ 3) (h1 : ¬ (c < leN (fmN e) ∨ ts ≠ []) → post r σ) (h2 : (c < leN (fmN e) ∨ ts ≠ []) → ∀ u, FltC σ 2 u → post r u) : f_A_readStatement_147 post σ e r := by
  have inv := hA.inv hv.2.1 hv.2.2.1
  have ll := le_le (fmN e)
  have bad : (c < leN (fmN e) ∨ ts ≠ []) → f_A_readStatement_167 post σ r := fun z => c_comp hv.1 (h2 z _ (c_flt inv (by omega)))
  refine ⟨he, c_least he ?_⟩
  rw [h27]
  refine b_c (fun z => bad ?_) (fun z => ?_)
  · rw [q_lt (by omega) (by omega)] at z; exact Or.inl z
  · rw [q_lt (by omega) (by omega)] at z
    refine c_look hA hv.1 (fun ets => b_t rfl (h1 ?_)) (fun t r' ets ok ne => b_f ?_ (bad (Or.inr (by rw [ets]; exact List.cons_ne_nil _ _)))) (fun t r' ets e1 => absurd e1 (nb t r' ets))
    · rintro (y | y)
      · exact z y
      · exact y ets
    · have := (kind_e ok).2.2
      rw [q_lit, q_eq (by omega) (by omega)]
      unfold okT sgn at ok
      omega
theorem OpV.snoc {σ : SS} {ind x : Nat} {vs : List Nat} (h : OpV σ ind vs) (hl : vs.length < 3) (hx : x < 65536) : OpV (sI (sA σ 22 vs.length (nI x)) 27 (nI (vs.length + 1))) ind (vs ++ [x]) := by
  obtain ⟨h1, h2, h3⟩ := h
  refine ⟨h1, by rw [List.length_append]; rfl, fun j hj => ?_⟩
  rw [getD_app hj]
  rw [List.length_append, List.length_singleton] at hj
  show (sA σ 22 vs.length (nI x)).2.1 22 j = _ ∧ _
  rw [sA_2, if_pos rfl, u_at]
  by_cases c : j < vs.length
  · rw [if_neg (by omega), if_neg (by omega)]; exact h3 j c
  · rw [if_pos (by omega), if_pos (by omega)]; exact ⟨rfl, hx⟩
theorem AtC.op {σ : SS} {ts : List Tk} (h : AtC σ ts) (i : Nat) (x y : Int32) : AtC (sI (sA σ 22 i x) 27 y) ts := h
theorem c_122 {σ : SS} {e m loc n i ind : Nat} {lb : Lb} {r : Int32} {ts : List Tk} {vs : List Nat} {post : Int32 → SS → Prop} (he : e < 35) (hm : m ≤ 3) (hl : loc < 65536) (hin : i + n + 1 = m) (hvs : vs.length = i) (hA : AtC σ ts) (hv : LivC σ lb loc) (hop : OpV σ ind vs)
    (h1 : (exE lb loc ts).1 = 0 → ∀ y, FrO σ y → AtC y (exE lb loc ts).2.2 → OpV y ind (vs ++ [vN (exE lb loc ts).2.1]) → f_A_readStatement_79 post (n + 1) y e r (nI m) (nI (i + 1)))
    (h2 : ∀ f, f = (exE lb loc ts).1 → ∀ q u, FltC σ f u → post q u) : f_A_readStatement_122 post (f_A_readStatement_79 post (n + 1)) σ e r (nI m) (nI i) := by
  refine c_expr hl hA hv (fun z u hu => ⟨by rw [q_in (by omega)]; omega, ?_⟩) (fun f ef q u hq hu => ⟨by rw [q_in (by omega)]; omega, ?_⟩)
  · obtain ⟨v1, v2⟩ := vN_e (exE lb loc ts).2.1
    simp only [nm]
    rw [show nI i + 1 = nI (i + 1) from q_add i 1, v1, q_cl (by omega)]
    have hop' : OpV u ind vs := by
      obtain ⟨⟨x, rfl⟩, _⟩ := hu
      exact hop
    subst hvs
    exact h1 z _ ((hu.fro.sA _ _).sI (by omega) _) (hu.2.op _ _ _) (hop'.snoc (by omega) v2)
  · simp only [nm]
    rw [show nI i + 1 = nI (i + 1) from q_add i 1]
    have sf := ((Saf.refl hu.1).sA (k := 22) (by omega) (nI i).toNatClampNeg (nI q)).sI (k := 27) (by omega) (nI (i + 1))
    exact s_79 he hm hu.ne (fun r' w hw => h2 f ef r' w (hu.saf hw)) n (i + 1) r _ (by omega) sf
theorem s_122 {σ : SS} {e m n i : Nat} {r : Int32} {post : Int32 → SS → Prop} (he : e < 35) (hm : m ≤ 3) (hin : i + n + 1 = m) (hf : σ.1 32 ≠ nI 0) (hi : InvC σ) (h : ∀ q u, Saf σ u → post q u) : f_A_readStatement_122 post (f_A_readStatement_79 post (n + 1)) σ e r (nI m) (nI i) := by
  refine s_expr hf hi (fun x y _ hy => ⟨by rw [q_in (by omega)]; omega, ?_⟩)
  simp only [nm]
  rw [show nI i + 1 = nI (i + 1) from q_add i 1]
  exact s_79 he hm hf h n (i + 1) r _ (by omega) ((hy.sA (by omega) _ _).sI (by omega) _)
theorem exE_bad {lb : Lb} {loc : Nat} {t : Tk} {r : List Tk} (h : t.1 = 1) : (exE lb loc (t :: r)).1 = 1 := by
  rw [exE_c, if_neg (by omega), if_neg (by omega)]
  exact (exT_F (Or.inr ⟨t, r, rfl, by unfold tmF; rw [if_pos h], by omega⟩)).symm
theorem c_op {σ : SS} {e m loc n i ind : Nat} {lb : Lb} {r : Int32} {ts : List Tk} {vs : List Nat} {post : Int32 → SS → Prop} (he : e < 35) (hm : m ≤ 3) (hl : loc < 65536) (hin : i + n + 1 = m) (hvs : vs.length = i) (hind : i = adN (fmN e) → ind = 0) (hA : AtC σ ts) (hv : LivC σ lb loc) (hop : OpV σ ind vs)
    (h1 : (opE lb loc (if i = adN (fmN e) then 1 else 0) ts).1 = 0 → ∀ y, FrO σ y → AtC y (opE lb loc (if i = adN (fmN e) then 1 else 0) ts).2.2.2 → OpV y (ind + (opE lb loc (if i = adN (fmN e) then 1 else 0) ts).2.1) (vs ++ [vN (opE lb loc (if i = adN (fmN e) then 1 else 0) ts).2.2.1]) → f_A_readStatement_79 post (n + 1) y e r (nI m) (nI (i + 1)))
    (h2 : ∀ f, f = (opE lb loc (if i = adN (fmN e) then 1 else 0) ts).1 → ∀ q u, FltC σ f u → post q u) : f_A_readStatement_99 post (f_A_readStatement_79 post (n + 1)) σ e r (nI m) (nI i) := by
  have adl : adN (fmN e) < 4294967296 := by unfold adN; (repeat' split) <;> omega
  have plain : (∀ t r', ts = t :: r' → ¬ ((if i = adN (fmN e) then 1 else 0) = 1 ∧ t.1 = 64)) → f_A_readStatement_122 post (f_A_readStatement_79 post (n + 1)) σ e r (nI m) (nI i) := by
    intro hn
    rw [opE_0 hn] at h1 h2
    exact c_122 he hm hl hin hvs hA hv hop h1 h2
  refine ⟨he, c_adr he (b_c (fun z => ?_) (fun z => plain ?_))⟩
  · rw [q_eq (by omega) adl] at z
    refine c_takes (c := 64) hA hv.1 (by omega) (by omega) (fun y => b_t rfl (plain ?_)) (fun t r' er et u hu => b_f (by decide) ?_) (fun t r' er et => b_t rfl ?_)
    · intro t r' er
      rcases y with y | ⟨t', r'', er', y1, y2⟩
      · rw [er] at y; cases y
      · rw [er] at er'; cases er'; exact fun k => y1 k.2
    · subst er
      rw [if_pos z, opE_1 ⟨rfl, et⟩] at h1 h2
      have f0 : FrO σ (sI u 28 1) := hu.fro.sI (by omega) _
      have hop' : OpV (sI u 28 1) (ind + 1) vs := by
        obtain ⟨⟨x, rfl⟩, _⟩ := hu
        rw [hind z]
        exact ⟨rfl, hop.2⟩
      exact c_122 (σ := sI u 28 1) he hm hl hin hvs hu.2 (hv.fro f0) hop' (fun a y f1 g1 g2 => h1 a y (f0.trans f1) g1 g2) (fun f ef q w hw => h2 f ef q w (FltC.fro f0 hw))
    · rw [opE_0 (fun t' r'' er' k => by rw [er] at er'; cases er'; omega)] at h2
      have fl := c_flt (f := 1) (hA.inv hv.2.1 hv.2.2.1) (by omega)
      exact s_122 he hm hin fl.ne fl.1 (fun q w hw => h2 1 (by rw [er]; exact (exE_bad et).symm) q w (fl.saf hw))
  · rw [q_eq (by omega) adl] at z
    intro t r' er
    rw [if_neg z]
    omega
theorem c_99 {σ0 : SS} {e m loc : Nat} {lb : Lb} {r : Int32} {post : Int32 → SS → Prop} (he : e < 35) (hm : m ≤ 3) (hl : loc < 65536) : ∀ (n i : Nat) (ts : List Tk) (σ : SS) (ind : Nat) (vs : List Nat), i + n + 1 = m → vs.length = i → (i ≤ adN (fmN e) → ind = 0) → FrO σ0 σ → AtC σ ts → LivC σ lb loc → OpV σ ind vs → ((rdO lb loc (adN (fmN e)) (leN (fmN e)) (n + 1) i ts ind vs).1 = 0 → ∀ u, FrO σ0 u → AtC u [] → OpV u (rdO lb loc (adN (fmN e)) (leN (fmN e)) (n + 1) i ts ind vs).2.1 (rdO lb loc (adN (fmN e)) (leN (fmN e)) (n + 1) i ts ind vs).2.2 → post r u) → (∀ f, f = (rdO lb loc (adN (fmN e)) (leN (fmN e)) (n + 1) i ts ind vs).1 → ∀ q u, FltC σ0 f u → post q u) → f_A_readStatement_99 post (f_A_readStatement_79 post (n + 1)) σ e r (nI m) (nI i) := by
  intro n
  induction n with
  | zero =>
    intro i ts σ ind vs hin hvs hind hfr hA hv hop h1 h2
    rw [rdO_s] at h1 h2
    refine c_op he hm hl hin hvs (fun z => hind (by omega)) hA hv hop (fun z y fy gA gO => ?_) (fun f ef q u hu => ?_)
    · rw [if_pos z] at h1 h2
      unfold rdM fiO at h1 h2
      rw [if_pos rfl] at h1 h2
      rw [f_A_readStatement_79]
      refine b_t (by rw [q_le (by omega) (by omega)]; omega) ?_
      have nb : nbT (opE lb loc (if i = adN (fmN e) then 1 else 0) ts).2.2.2 := opE_nb z
      refine c_147 he gA (hv.fro fy) nb gO.2.1 (by rw [List.length_append, List.length_singleton]; omega) (fun k => ?_) (fun k u hu => ?_)
      · rw [if_neg k] at h1
        have et : (opE lb loc (if i = adN (fmN e) then 1 else 0) ts).2.2.2 = [] := by
          by_cases y : (opE lb loc (if i = adN (fmN e) then 1 else 0) ts).2.2.2 = []
          · exact y
          · exact absurd (Or.inr y) k
        rw [et] at gA
        exact h1 rfl y (hfr.trans fy) gA gO
      · rw [if_pos k] at h2
        exact h2 2 rfl _ u (FltC.fro (hfr.trans fy) hu)
    · by_cases z : (opE lb loc (if i = adN (fmN e) then 1 else 0) ts).1 = 0
      · obtain ⟨_, _, _, _, p1, _⟩ := hu
        omega
      · rw [if_neg z] at h2
        exact h2 f ef q u (FltC.fro hfr hu)
  | succ n IH =>
    intro i ts σ ind vs hin hvs hind hfr hA hv hop h1 h2
    rw [rdO_s] at h1 h2
    refine c_op he hm hl hin hvs (fun z => hind (by omega)) hA hv hop (fun z y fy gA gO => ?_) (fun f ef q u hu => ?_)
    · rw [if_pos z] at h1 h2
      have nb : nbT (opE lb loc (if i = adN (fmN e) then 1 else 0) ts).2.2.2 := opE_nb z
      have ind' : i + 1 ≤ adN (fmN e) → ind + (opE lb loc (if i = adN (fmN e) then 1 else 0) ts).2.1 = 0 := by
        intro k
        rw [hind (by omega), if_neg (by omega), opE_0 (fun _ _ _ w => by omega)]; rfl
      revert h1 h2 gA gO nb ind'
      generalize (opE lb loc (if i = adN (fmN e) then 1 else 0) ts).2.2.2 = rest
      generalize ind + (opE lb loc (if i = adN (fmN e) then 1 else 0) ts).2.1 = ind2
      generalize hvs2 : vs ++ [vN (opE lb loc (if i = adN (fmN e) then 1 else 0) ts).2.2.1] = vs2
      intro h1 h2 gA gO nb ind'
      have lvs : vs2.length = i + 1 := by rw [← hvs2, List.length_append, List.length_singleton]; omega
      have hv' := hv.fro fy
      have fin : rdM (leN (fmN e)) (rdO lb loc (adN (fmN e)) (leN (fmN e)) (n + 1)) (n + 1) i rest ind2 vs2 = fiO (leN (fmN e)) rest ind2 vs2 → f_A_readStatement_147 post y e r := by
        intro ee
        rw [ee] at h1 h2
        unfold fiO at h1 h2
        refine c_147 he gA hv' nb gO.2.1 (by omega) (fun k => ?_) (fun k u hu => ?_)
        · rw [if_neg k] at h1
          have et : rest = [] := by
            by_cases y : rest = []
            · exact y
            · exact absurd (Or.inr y) k
          rw [et] at gA
          exact h1 rfl y (hfr.trans fy) gA gO
        · rw [if_pos k] at h2
          exact h2 2 rfl _ u (FltC.fro (hfr.trans fy) hu)
      rw [f_A_readStatement_79]
      refine b_f (by rw [q_le (by omega) (by omega)]; omega) (b_f (by rw [q_lit, q_eq (by omega) (by omega)]; omega) ?_)
      refine c_takes (c := 44) gA hv'.1 (by omega) (by omega) (fun k => b_t rfl (fin ?_)) (fun t r' er et u hu => b_f (by decide) ?_) (fun t r' er et => absurd et (nb t r' er))
      · unfold rdM
        rw [if_neg (by omega)]
        rcases k with k | ⟨t, r', er, k1, k2⟩
        · rw [k]
        · rw [er]
          show (if t.1 = 44 then _ else _) = _
          rw [if_neg k1]
      · have ee : rdM (leN (fmN e)) (rdO lb loc (adN (fmN e)) (leN (fmN e)) (n + 1)) (n + 1) i rest ind2 vs2 = rdO lb loc (adN (fmN e)) (leN (fmN e)) (n + 1) (i + 1) r' ind2 vs2 := by
          unfold rdM
          rw [if_neg (by omega), er]
          show (if t.1 = 44 then _ else _) = _
          rw [if_pos et]
        rw [ee] at h1 h2
        have gO' : OpV u ind2 vs2 := by
          obtain ⟨⟨x, rfl⟩, _⟩ := hu
          exact gO
        exact IH (i + 1) r' u ind2 vs2 (by omega) lvs ind' ((hfr.trans fy).trans hu.fro) hu.2 (hv'.fro hu.fro) gO' h1 h2
    · by_cases z : (opE lb loc (if i = adN (fmN e) then 1 else 0) ts).1 = 0
      · obtain ⟨_, _, _, _, p1, _⟩ := hu
        omega
      · rw [if_neg z] at h2
        exact h2 f ef q u (FltC.fro hfr hu)
/-- '#' -/
def hsh (f : Nat) (ts : List Tk) : Nat × List Tk := match ts with
  | [] => (0, [])
  | t :: r => if f = 4 ∧ t.1 = 35 then (8, r) else (0, t :: r)
theorem hsh_0 {f : Nat} {ts : List Tk} (h : ∀ t r, ts = t :: r → ¬ (f = 4 ∧ t.1 = 35)) : hsh f ts = (0, ts) := by
  cases ts with
  | nil => rfl
  | cons t r =>
    show (if f = 4 ∧ t.1 = 35 then _ else _) = _
    rw [if_neg (h t r rfl)]
theorem hsh_1 {f : Nat} {t : Tk} {r : List Tk} (h : f = 4 ∧ t.1 = 35) : hsh f (t :: r) = (8, r) := by
  show (if f = 4 ∧ t.1 = 35 then _ else _) = _
  rw [if_pos h]
def rd (lb : Lb) (loc f : Nat) (ts : List Tk) : Nat × Nat × List Nat := rdO lb loc (adN f) (leN f) (moN f) 0 ts 0 []
theorem c_57 {σ : SS} {e loc : Nat} {lb : Lb} {ts : List Tk} {r : Int32} {post : Int32 → SS → Prop} (he : e < 35) (hl : loc < 65536) (hA : AtC σ ts) (hv : LivC σ lb loc) (nb : moN (fmN e) = 0 → nbT ts)
    (h1 : (rd lb loc (fmN e) ts).1 = 0 → ∀ u, FrO σ u → AtC u [] → OpV u (rd lb loc (fmN e) ts).2.1 (rd lb loc (fmN e) ts).2.2 → post r u)
    (h2 : ∀ f, f = (rd lb loc (fmN e) ts).1 → ∀ q u, FltC σ f u → post q u) : f_A_readStatement_57 post σ e r := by
  have ml := mo_le (fmN e)
  simp only [f_A_readStatement_57, nm]
  have f0 : FrO σ (sI (sI σ 28 0) 27 0) := ((FrO.refl σ).sI (by omega) _).sI (by omega) _
  have hv' := hv.fro f0
  have hA' : AtC (sI (sI σ 28 0) 27 0) ts := hA
  have hop : OpV (sI (sI σ 28 0) 27 0) 0 [] := ⟨rfl, rfl, fun j hj => absurd hj (by simp)⟩
  refine ⟨he, c_most he ?_⟩
  rw [mo_if ml]
  unfold rd at h1 h2
  by_cases c : moN (fmN e) = 0
  · rw [c] at h1 h2 ⊢
    refine ⟨1, ?_⟩
    rw [f_A_readStatement_79]
    refine b_t (by rw [q_lit, q_le (by omega) (by omega)]; omega) ?_
    unfold rdO fiO at h1 h2
    rw [List.length_nil] at h1 h2
    refine c_147 (c := 0) he hA' hv' (nb c) rfl (by omega) (fun k => ?_) (fun k u hu => ?_)
    · rw [if_neg k] at h1
      have et : ts = [] := by
        by_cases y : ts = []
        · exact y
        · exact absurd (Or.inr y) k
      rw [et] at hA'
      exact h1 rfl _ f0 hA' hop
    · rw [if_pos k] at h2
      exact h2 2 rfl _ u (FltC.fro f0 hu)
  · obtain ⟨n, hn⟩ : ∃ n, moN (fmN e) = n + 1 := ⟨moN (fmN e) - 1, by omega⟩
    rw [hn] at h1 h2 ⊢
    refine ⟨n + 2, ?_⟩
    rw [f_A_readStatement_79]
    refine b_f (by rw [q_lit, q_le (by omega) (by omega)]; omega) (b_t rfl ?_)
    exact c_99 he (by omega) hl n 0 ts _ 0 [] (by omega) rfl (fun _ => rfl) f0 hA' hv' hop h1 h2
theorem c_35 {σ : SS} {e loc x : Nat} {lb : Lb} {ts : List Tk} {post : Int32 → SS → Prop} (he : e < 35) (hl : loc < 65536) (hA : AtC σ ts) (hv : LivC σ lb loc) (nb : e ≠ 34 → nbT ts)
    (h1 : (rd lb loc (fmN e) (hsh (fmN e) ts).2).1 = 0 → ∀ u, FrO σ u → AtC u [] → OpV u (rd lb loc (fmN e) (hsh (fmN e) ts).2).2.1 (rd lb loc (fmN e) (hsh (fmN e) ts).2).2.2 → post (nI (x ||| (hsh (fmN e) ts).1)) u)
    (h2 : ∀ f, f = (rd lb loc (fmN e) (hsh (fmN e) ts).2).1 → ∀ q u, FltC σ f u → post q u) : f_A_readStatement_35 post σ e (nI x) := by
  have hf := fm_le e he
  have n34 : moN (fmN e) = 0 → e ≠ 34 := by
    intro z k
    subst k
    exact absurd z (by decide)
  have plain : (∀ t r', ts = t :: r' → ¬ (fmN e = 4 ∧ t.1 = 35)) → f_A_readStatement_57 post σ e (nI x) := by
    intro hn
    rw [hsh_0 hn] at h1 h2
    simp only [Nat.or_zero] at h1
    exact c_57 he hl hA hv (fun z => nb (n34 z)) h1 h2
  refine ⟨he, ?_⟩
  rw [(eS_F e he).1]
  refine b_c (fun z => ?_) (fun z => plain ?_)
  · rw [q_lit, q_eq (by omega) (by omega)] at z
    have e34 : e ≠ 34 := by intro k; subst k; exact absurd z (by decide)
    refine c_takes (c := 35) hA hv.1 (by omega) (by omega) (fun y => b_t rfl (plain ?_)) (fun t r' er et u hu => b_f (by decide) ?_) (fun t r' er et => absurd et (nb e34 t r' er))
    · intro t r' er
      rcases y with y | ⟨t', r'', er', y1, y2⟩
      · rw [er] at y; cases y
      · rw [er] at er'; cases er'; exact fun k => y1 k.2
    · subst er
      rw [hsh_1 ⟨z, et⟩] at h1 h2
      simp only [nm]
      rw [q_lit, q_or]
      refine c_57 he hl hu.2 (hv.fro hu.fro) (fun k => ?_) (fun a u' f1 g1 g2 => h1 a u' (hu.fro.trans f1) g1 g2) (fun f ef q w hw => h2 f ef q w (FltC.fro hu.fro hw))
      rw [z] at k
      exact absurd k (by decide)
  · rw [q_lit, q_eq (by omega) (by omega)] at z
    exact fun t r' er k => z k.1
/-- a statement by its name -/
theorem c_rS {σ : SS} {e loc : Nat} {lb : Lb} {t : Tk} {ts : List Tk} {post : Int32 → SS → Prop} (he : e < 34) (hl : loc < 65536) (hA : AtC σ (t :: ts)) (ht : t.1 = 2) (hv : LivC σ lb loc) (nb : nbT ts)
    (h1 : (rd lb loc (fmN e) (hsh (fmN e) ts).2).1 = 0 → ∀ u, FrO σ u → AtC u [] → OpV u (rd lb loc (fmN e) (hsh (fmN e) ts).2).2.1 (rd lb loc (fmN e) (hsh (fmN e) ts).2).2.2 → post (nI (fbN e t.2.2 ||| (hsh (fmN e) ts).1)) u)
    (h2 : ∀ f, f = (rd lb loc (fmN e) (hsh (fmN e) ts).2).1 → ∀ q u, FltC σ f u → post q u) : f_A_readStatement post σ e := by
  have ok := hA.1 t List.mem_cons_self
  obtain ⟨e1, e2⟩ := it_name ok ht
  refine ⟨by omega, b_f (by omega) (c_nameAt hA ?_)⟩
  rw [e1]
  refine c_fb e2 (by omega) ?_
  have adv := AdvC.tail hA
  exact c_35 (by omega) hl adv.2 (hv.fro adv.fro) (fun _ => nb) (fun a u' f1 g1 g2 => h1 a u' (adv.fro.trans f1) g1 g2) (fun f ef q w hw => h2 f ef q w (FltC.fro adv.fro hw))
/-- a word that is an expression -/
theorem c_rW {σ : SS} {loc : Nat} {lb : Lb} {ts : List Tk} {post : Int32 → SS → Prop} (hl : loc < 65536) (hA : AtC σ ts) (hv : LivC σ lb loc)
    (h1 : (rd lb loc 10 ts).1 = 0 → ∀ u, FrO σ u → AtC u [] → OpV u (rd lb loc 10 ts).2.1 (rd lb loc 10 ts).2.2 → post (nI 0) u)
    (h2 : ∀ f, f = (rd lb loc 10 ts).1 → ∀ q u, FltC σ f u → post q u) : f_A_readStatement post σ 34 := by
  refine ⟨by omega, b_t rfl ?_⟩
  have e0 : hsh (fmN 34) ts = (0, ts) := hsh_0 (fun t r' er k => absurd k.1 (by decide))
  refine c_35 (x := 0) (lb := lb) (loc := loc) (by omega) hl hA hv (fun z => absurd rfl z) ?_ ?_
  · rw [e0, show fmN 34 = 10 from rfl]
    intro a u b c d
    rw [show (0 ||| (0, ts).1) = 0 from Nat.or_zero 0]
    exact h1 a u b c d
  · rw [e0, show fmN 34 = 10 from rfl]; exact h2
