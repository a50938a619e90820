/-! the pure side: the reference's expressions -/
theorem r_mod (x : Int32) : ((x - x / 65536 * 65536) + 65536) - ((x - x / 65536 * 65536) + 65536) / 65536 * 65536 = x &&& 65535 := by
  obtain ⟨n, hn, rfl⟩ := n_of x
  by_cases c : n < 2147483648
  · simp (disch := omega) only [nm, q_lit, q_add, q_sub, q_subN, q_n1, q_mul, q_div, q_nm, q_and, q_or, q_xor, q_shr, q_shl, q_cl, q_a1, q_a3, q_a7, q_a31, q_a63, q_a255, q_a15, q_a16, q_a17, q_a2, q_a4, q_a8, q_a1024, q_a65536, Nat.reduceMod, Nat.reducePow, Nat.reduceDiv, Nat.reduceMul, Nat.reduceAdd, Nat.reduceSub, Nat.reduceEqDiff]
    exact congrArg nI (by omega)
  · obtain ⟨y, hy⟩ : ∃ y, y = 4294967296 - n := ⟨_, rfl⟩
    have ex : (nI n).toInt = -(y : Int) := by
      show (Int32.ofNat n).toInt = _
      rw [Int32.toInt_ofNat']
      show ((n : Nat) : Int).bmod 4294967296 = _
      rw [Int.bmod_def]
      omega
    have ed : nI n / 65536 = nI (4294967296 - y / 65536) := by
      apply Int32.toInt_inj.mp
      rw [Int32.toInt_div_of_ne_right _ _ (by decide), ex]
      have e1 : (65536 : Int32).toInt = 65536 := by decide
      rw [e1, Int.neg_tdiv]
      have e2 : ((y : Int)).tdiv 65536 = ((y / 65536 : Nat) : Int) := by
        rw [Int.tdiv_eq_ediv_of_nonneg (by omega)]
        omega
      rw [e2]
      show _ = (Int32.ofNat (4294967296 - y / 65536)).toInt
      rw [Int32.toInt_ofNat']
      show _ = ((4294967296 - y / 65536 : Nat) : Int).bmod 4294967296
      rw [Int.bmod_def]
      omega
    have em : nI n - nI n / 65536 * 65536 = nI (n + y / 65536 * 65536) := by
      rw [ed, q_lit, q_mul]
      have e3 : nI ((4294967296 - y / 65536) * 65536) + nI (y / 65536 * 65536) = nI 0 := by
        rw [q_add, show (4294967296 - y / 65536) * 65536 + y / 65536 * 65536 = 4294967296 * 65536 by omega]
        decide
      have e4 : nI n = nI (n + y / 65536 * 65536) + nI ((4294967296 - y / 65536) * 65536) := by
        rw [← q_add, Int32.add_assoc, Int32.add_comm (nI (y / 65536 * 65536)), e3]
        exact (Int32.add_zero _).symm
      conv => lhs; lhs; rw [e4]
      rw [Int32.add_sub_cancel]
    rw [em]
    have wrap : ∀ z : Nat, nI (z + 4294967296) = nI z := by
      intro z
      rw [← q_add, show nI 4294967296 = nI 0 by decide]
      exact Int32.add_zero _
    rw [q_lit, q_add, show n + y / 65536 * 65536 + 65536 = (65536 - y % 65536) + 4294967296 by omega, wrap]
    simp (disch := omega) only [nm, q_lit, q_add, q_sub, q_subN, q_n1, q_mul, q_div, q_nm, q_and, q_or, q_xor, q_shr, q_shl, q_cl, q_a1, q_a3, q_a7, q_a31, q_a63, q_a255, q_a15, q_a16, q_a17, q_a2, q_a4, q_a8, q_a1024, q_a65536, Nat.reduceMod, Nat.reducePow, Nat.reduceDiv, Nat.reduceMul, Nat.reduceAdd, Nat.reduceSub, Nat.reduceEqDiff]
    exact congrArg nI (by omega)
def LivR (τ : SS) (T : Nat → Nat) (len e : Nat) (lb : Lb) (loc : Nat) : Prop := RTx τ T len ∧ e ≤ len ∧ τ.1 21 = nI e ∧ LbR τ lb ∧ τ.1 19 = nI loc
theorem LivR.fr {τ v : SS} {T : Nat → Nat} {len e : Nat} {lb : Lb} {loc : Nat} (h : LivR τ T len e lb loc) (f : FrN τ v) : LivR v T len e lb loc := by
  obtain ⟨h1, h2, h3, ⟨l1, l2, l3⟩, h5⟩ := h
  obtain ⟨f1, f2, f3, _⟩ := id f
  refine ⟨h1.fr f, h2, ?_, ⟨l1, ?_, ?_⟩, ?_⟩
  · rw [f1 21 (by omega) (by omega) (by omega) (by omega) (by omega)]; exact h3
  · rw [f1 16 (by omega) (by omega) (by omega) (by omega) (by omega)]; exact l2
  · rw [f2, f3]; exact l3
  · rw [f1 19 (by omega) (by omega) (by omega) (by omega) (by omega)]; exact h5
/-- a fault of the reference's -/
def FltR (τ : SS) (f : Nat) (v : SS) : Prop := RF τ f v ∧ 0 < f ∧ f < 8
theorem FltR.ne {τ v : SS} {f : Nat} (h : FltR τ f v) : ¬ v.1 13 = 0 := by
  obtain ⟨⟨_, h2, _⟩, h5, h6⟩ := h
  rw [h2, q_lit, q_eq (by omega) (by omega)]
  omega
theorem FltR.up {τ v w : SS} {f : Nat} (g : FrN τ v) (h : FltR v f w) : FltR τ f w := ⟨⟨g.trans h.1.1, h.1.2.1, by rw [h.1.2.2, g.1 15 (by omega) (by omega) (by omega) (by omega) (by omega)]⟩, h.2⟩
theorem r_flt {τ : SS} {f : Nat} (hf : 0 < f ∧ f < 8) : FltR τ f (sI (sI τ 13 (nI f)) 14 (τ.1 15)) := ⟨⟨(FrN.refl _).flt hf.1 hf.2 _, rfl, rfl⟩, hf⟩
theorem r_nextF {τ : SS} {post : Int32 → SS → Prop} (hf : ¬ τ.1 13 = 0) (h : post 0 τ) : f_R_next post τ := b_f hf h
theorem r_termF {τ : SS} {post : Int32 → SS → Prop} (hf : ¬ τ.1 13 = 0) (h : post 0 τ) : f_R_term post τ := b_f hf h
theorem r_signF {τ : SS} {c : Int32} {post : Int32 → SS → Prop} (h : ∀ r, post r τ) : f_R_isSign post τ c := b_c (fun _ => b_c (fun _ => h _) (fun _ => h _)) (fun _ => h _)
theorem r_41F {τ : SS} {x : Int32} {post : Int32 → SS → Prop} (hf : ¬ τ.1 13 = 0) (h : ∀ r, r < 65536 → post (nI r) τ) : f_R_expression_41 post τ x := by
  refine ⟨1, ?_⟩
  rw [f_R_expression_42]
  refine b_f hf ?_
  simp only [f_R_expression_100]
  rw [r_mod]
  obtain ⟨n, hn, rfl⟩ := n_of x
  rw [q_lit, q_and, q_a16]
  exact h _ (by omega)
theorem r_exprF {τ : SS} {post : Int32 → SS → Prop} (hf : ¬ τ.1 13 = 0) (h : ∀ r, r < 65536 → post (nI r) τ) : f_R_expression post τ := by
  have e25 : ∀ x, f_R_expression_25 post τ x := fun x => b_c (fun _ => r_termF hf (r_41F hf h)) (fun _ => r_termF hf (r_41F hf h))
  have e20 : ∀ x, f_R_expression_20 post τ x := fun x => r_nextF hf (e25 x)
  exact r_signF (fun r => r_signF (fun r2 => b_c (fun _ => b_c (fun _ => e25 _) (fun _ => e20 _)) (fun _ => e20 _)))
theorem r_sign {T : Nat → Nat} {e c : Nat} {ts : List Tk} {τ : SS} {post : Int32 → SS → Prop} (h : AtR T e ts τ) (hc : c < 256) (h1 : ∀ t r, ts = t :: r → t.1 = c → sgn c → post (nI 1) τ) (h0 : (ts = [] ∨ ∃ t r, ts = t :: r ∧ (t.1 ≠ c ∨ ¬ sgn c)) → post (nI 0) τ) : f_R_isSign post τ (nI c) := by
  simp only [f_R_isSign]
  obtain ⟨_, h2⟩ := h
  cases ts with
  | nil => exact b_f (by rw [show τ.1 22 = nI 0 from h2]; decide) (h0 (Or.inl rfl))
  | cons t r =>
    obtain ⟨_, hk, _⟩ := h2
    rcases hk with ⟨k1, k2, k3, k4⟩ | ⟨k1, k2, k3, k4⟩ | ⟨k1, k2, k3⟩
    · refine b_f (by rw [k3]; decide) (h0 (Or.inr ⟨t, r, rfl, ?_⟩))
      by_cases z : t.1 = c
      · right; unfold sgn; omega
      · exact Or.inl z
    · refine b_f (by rw [k3]; decide) (h0 (Or.inr ⟨t, r, rfl, ?_⟩))
      by_cases z : t.1 = c
      · right; unfold sgn; omega
      · exact Or.inl z
    · refine b_t (by rw [k2]; decide) ?_
      rw [k3]
      by_cases z : t.1 = c
      · exact b_t (by rw [z]) (h1 t r rfl z (z ▸ k1))
      · refine b_f ?_ (h0 (Or.inr ⟨t, r, rfl, Or.inl z⟩))
        unfold sgn at k1
        rw [q_eq (by omega) (by omega)]; exact z
/-- to the next item -/
theorem r_go {T : Nat → Nat} {len e loc : Nat} {t : Tk} {r : List Tk} {lb : Lb} {τ : SS} {post : Int32 → SS → Prop} (h : AtR T e (t :: r) τ) (hv : LivR τ T len e lb loc) (k1 : ∀ v, FrN τ v → AtR T e r v → post (nI 1) v) (k2 : ∀ s r', r = s :: r' → s.1 = 1 → ∀ v, FltR τ 1 v → post (nI 0) v) : f_R_next post τ := by
  obtain ⟨h13, _, _, q, h20, hlx⟩ := h
  obtain ⟨ht, he, h21, _, _⟩ := hv
  exact r_next he ht h13 h21 h20 hlx k1 (fun s r' er es v g => k2 s r' er es v ⟨g, by omega⟩)
theorem r_term {T : Nat → Nat} {len e loc : Nat} {ts : List Tk} {lb : Lb} {τ : SS} {post : Int32 → SS → Prop} (h : AtR T e ts τ) (hv : LivR τ T len e lb loc) (hl : loc < 65536) (h1 : ∀ t r, ts = t :: r → tmF lb loc t = 0 → ∀ v, FrN τ v → AtR T e r v → post (nI (tmV lb loc t)) v)
    (h2 : ∀ t s r, ts = t :: s :: r → tmF lb loc t = 0 → s.1 = 1 → ∀ x v, FltR τ 1 v → post x v) (h3 : ∀ f, (ts = [] ∧ f = 2) ∨ (∃ t r, ts = t :: r ∧ f = tmF lb loc t ∧ f ≠ 0) → ∀ x v, FltR τ f v → post x v) : f_R_term post τ := by
  have h13 := h.1
  simp only [f_R_term, nm]
  refine b_t h13 ?_
  have stop58 : ∀ (f : Nat) (x : Int32), ((ts = [] ∧ f = 2) ∨ (∃ t r, ts = t :: r ∧ f = tmF lb loc t ∧ f ≠ 0)) → 0 < f ∧ f < 8 → f_R_stop (fun r_9 σ_8 => f_R_term_58 post σ_8 x) τ (nI f) := by
    intro f x hf hf2
    have fl := r_flt (τ := τ) hf2
    exact r_stop h13 (r_nextF fl.ne (h3 f hf x _ fl))
  cases ts with
  | nil =>
    have h22 : τ.1 22 = nI 0 := h.2
    rw [h22]
    exact b_f (by decide) (b_f (by decide) (stop58 2 _ (Or.inl ⟨rfl, rfl⟩) (by omega)))
  | cons t r =>
    obtain ⟨_, nb, hk, _⟩ := id h
    have go : ∀ x : Int32, x = nI (tmV lb loc t) → tmF lb loc t = 0 → f_R_term_58 post τ x := by
      intro x hx ht
      simp only [f_R_term_58]
      refine r_go h hv (fun v g1 g2 => ?_) (fun s r' er es v g => ?_)
      · rw [hx]; exact h1 t r rfl ht v g1 g2
      · rw [er] at h2
        exact h2 t s r' rfl ht es x v g
    rcases hk with ⟨k1, k2, k3, k4⟩ | ⟨k1, k2, k3, k4⟩ | ⟨k1, k2, k3⟩
    · rw [k3, k4]
      refine b_t rfl (r_nmb k2 hv.2.2.2.1 hv.2.2.2.2 ?_)
      have hb : ∀ i, i < lb.length → (lb.getD i ([], 0)).2 < 65536 := fun i hi => (hv.2.2.2.1.2.2 i hi).2.1
      have bnd : nmb lb loc t.2.2 = 4294967295 ∨ nmb lb loc t.2.2 < 65536 := by
        unfold nmb
        split
        · exact Or.inr hl
        · split
          · exact lkL_lt hb
          · rcases givN_lt t.2.2 with z | z
            · exact Or.inl z
            · exact Or.inr (by omega)
      rcases bnd with y | y
      · have ef : tmF lb loc t = 3 := by unfold tmF; rw [if_neg nb, if_pos k1, if_pos y]
        rw [y]
        exact b_f (by decide) (stop58 3 _ (Or.inr ⟨t, r, rfl, ef.symm, by omega⟩) (by omega))
      · have ef : tmF lb loc t = 0 := by unfold tmF; rw [if_neg nb, if_pos k1, if_neg (by omega)]
        refine b_t (by rw [q_lit, q_le (by omega) (by omega)]; omega) (go _ ?_ ef)
        unfold tmV; rw [if_pos k1]
    · have ef : tmF lb loc t = 0 := by unfold tmF; rw [if_neg nb, if_neg (by omega), if_pos k1]
      rw [k3]
      refine b_f (by decide) (b_t rfl (go _ ?_ ef))
      rw [k4]
      unfold tmV; rw [if_neg (by omega)]
    · have ef : tmF lb loc t = 2 := by
        unfold sgn at k1
        unfold tmF; rw [if_neg nb, if_neg (by omega), if_neg (by omega)]
      rw [k2]
      exact b_f (by decide) (b_f (by decide) (stop58 2 _ (Or.inr ⟨t, r, rfl, ef.symm, by omega⟩) (by omega)))
/-- behind a term -/
def exR (lb : Lb) (loc : Nat) (ts : List Tk) (acc : Int32) : Nat × Int32 × List Tk := match ts with
  | [] => (0, acc, [])
  | s :: r => if s.1 = 1 then (1, acc, s :: r) else if s.1 = 45 then exT lb loc r 1 acc else if s.1 = 43 then exT lb loc r 0 acc else (0, acc, s :: r)
theorem exT_R1 {lb : Lb} {loc m : Nat} {t s : Tk} {r : List Tk} {acc : Int32} (h : tmF lb loc t = 0) (z : s.1 = 1) : exT lb loc (t :: s :: r) m acc = (1, acc, s :: r) := by
  unfold exT
  rw [if_pos h, if_pos z]
theorem exT_R2 {lb : Lb} {loc m : Nat} {t : Tk} {r : List Tk} {acc : Int32} (h : tmF lb loc t = 0) (nb : ∀ s r', r = s :: r' → s.1 ≠ 1) : exT lb loc (t :: r) m acc = exR lb loc r (acc + sg m (tmV lb loc t)) := by
  cases r with
  | nil =>
    unfold exT exR
    rw [if_pos h]
  | cons s r' =>
    have z := nb s r' rfl
    conv => lhs; unfold exT
    rw [if_pos h, if_neg z]
    show _ = (if s.1 = 1 then _ else _)
    rw [if_neg z]
theorem exT_F {lb : Lb} {loc m f : Nat} {ts : List Tk} {acc : Int32} (h : (ts = [] ∧ f = 2) ∨ (∃ t r, ts = t :: r ∧ f = tmF lb loc t ∧ f ≠ 0)) : f = (exT lb loc ts m acc).1 := by
  rcases h with ⟨z, e⟩ | ⟨t, r', z, e, e2⟩
  · rw [z]; unfold exT; exact e
  · rw [z]
    cases r' with
    | nil => unfold exT; rw [if_neg (by omega)]; exact e
    | cons s r'' => unfold exT; rw [if_neg (by omega)]; exact e
theorem AtR.nb {T : Nat → Nat} {e : Nat} {ts : List Tk} {τ : SS} (h : AtR T e ts τ) : ∀ s r', ts = s :: r' → s.1 ≠ 1 := by
  intro s r' er
  rw [er] at h
  exact h.2.1
theorem r_42 {τ0 : SS} {T : Nat → Nat} {len e loc : Nat} {lb : Lb} {post : Int32 → SS → Prop} (hl : loc < 65536) (k : Nat) : ∀ (ts : List Tk) (τ : SS) (acc : Int32) (n : Nat), ts.length ≤ k → k < n → FrN τ0 τ → AtR T e ts τ → LivR τ T len e lb loc → ((exR lb loc ts acc).1 = 0 → ∀ v, FrN τ0 v → AtR T e (exR lb loc ts acc).2.2 v → post ((exR lb loc ts acc).2.1 &&& 65535) v) → (∀ f, f = (exR lb loc ts acc).1 → ∀ r v, r < 65536 → FltR τ0 f v → post (nI r) v) → f_R_expression_42 post n τ acc := by
  induction k using Nat.strongRecOn with
  | _ k IH =>
  intro ts τ acc n hk hn hf ha hv h1 h2
  obtain ⟨n, rfl⟩ : ∃ n', n = n' + 1 := ⟨n - 1, by omega⟩
  rw [f_R_expression_42]
  refine b_t ha.1 ?_
  -- a further term
  have more : ∀ (c m : Nat) t r, ts = t :: r → t.1 = c → (c = 43 ∧ m = 0 ∨ c = 45 ∧ m = 1) → exR lb loc ts acc = exT lb loc r m acc → f_R_expression_67 post (f_R_expression_42 post n) τ acc := by
    intro c m t r et ec hcm ee
    subst et
    have len2 : r.length + 1 ≤ k := by simpa using hk
    rw [ee] at h1 h2
    simp only [f_R_expression_67]
    have body : ∀ r3 : Int32, (m = 1 → r3 = nI 1) → (m = 0 → r3 = nI 0) → f_R_next (fun r_5 σ_4 => f_R_term (fun r_7 σ_6 => br (r3 = 0) (f_R_expression_95 post (f_R_expression_42 post n) σ_6 r_7 acc) (f_R_expression_95 post (f_R_expression_42 post n) σ_6 (-r_7) acc)) σ_4) τ := by
      intro r3 q1 q0
      have fin95 : ∀ (x y : Int32) (v : SS) (f : Nat), f = (exT lb loc r m acc).1 → FltR τ0 f v → f_R_expression_95 post (f_R_expression_42 post n) v x y := by
        intro x y v f ef fl
        simp only [f_R_expression_95, nm]
        obtain ⟨n', rfl⟩ : ∃ n', n = n' + 1 := ⟨n - 1, by omega⟩
        rw [f_R_expression_42]
        refine b_f fl.ne ?_
        simp only [f_R_expression_100]
        rw [r_mod]
        obtain ⟨w, hw, ew⟩ := n_of (y + x)
        rw [ew, q_lit, q_and, q_a16]
        exact h2 f ef _ v (by omega) fl
      have finB : ∀ (x : Int32) (v : SS) (f : Nat), f = (exT lb loc r m acc).1 → FltR τ0 f v → br (r3 = 0) (f_R_expression_95 post (f_R_expression_42 post n) v x acc) (f_R_expression_95 post (f_R_expression_42 post n) v (-x) acc) := fun x v f ef fl => b_c (fun _ => fin95 _ _ v f ef fl) (fun _ => fin95 _ _ v f ef fl)
      refine r_go ha hv (fun v g1 g2 => ?_) (fun s r' er es v g => ?_)
      · have hv' := hv.fr g1
        refine r_term g2 hv' hl (fun t2 r2 er2 ht2 w w1 w2 => ?_) (fun t2 s2 r2 er2 ht2 es2 x w fl => ?_) (fun f hf' x w fl => ?_)
        · have e2 : exT lb loc r m acc = exR lb loc r2 (acc + sg m (tmV lb loc t2)) := by rw [er2]; exact exT_R2 ht2 w2.nb
          rw [e2] at h1 h2
          have len3 : r2.length + 1 = r.length := by rw [er2]; rfl
          have next : f_R_expression_95 post (f_R_expression_42 post n) w (sg m (tmV lb loc t2)) acc := IH (k - 2) (by omega) r2 w _ n (by omega) (by omega) ((hf.trans g1).trans w1) w2 (hv'.fr w1) h1 h2
          rcases hcm with ⟨_, hm⟩ | ⟨_, hm⟩
          · rw [q0 hm]
            refine b_t rfl ?_
            unfold sg at next
            rw [if_neg (by omega)] at next
            exact next
          · rw [q1 hm]
            refine b_f (by decide) ?_
            unfold sg at next
            rw [if_pos hm] at next
            exact next
        · exact finB x w 1 (by rw [er2, exT_R1 ht2 es2]) (FltR.up (hf.trans g1) fl)
        · exact finB x w f (exT_F hf') (FltR.up (hf.trans g1) fl)
      · have ef : 1 = (exT lb loc r m acc).1 := exT_F (Or.inr ⟨s, r', er, by unfold tmF; rw [if_pos es], by omega⟩)
        have fl := FltR.up hf g
        exact r_termF fl.ne (finB _ v 1 ef fl)
    refine r_sign (c := 45) ha (by omega) (fun t' r' er ec' _ => ?_) (fun z => ?_)
    · cases er
      refine body (nI 1) (fun _ => rfl) (fun hm => ?_)
      omega
    · refine body (nI 0) (fun hm => ?_) (fun _ => rfl)
      rcases z with z | ⟨t', r', er, z⟩
      · cases z
      · cases er
        rcases z with z | z
        · omega
        · exact absurd (by unfold sgn; omega) z
  refine r_sign (c := 43) ha (by omega) (fun t r et ec _ => b_f (by decide) ?_) (fun z => b_t rfl ?_)
  · refine more 43 0 t r et ec (Or.inl ⟨rfl, rfl⟩) ?_
    have nb := ha.nb t r et
    rw [et]
    unfold exR
    show (if t.1 = 1 then _ else if t.1 = 45 then _ else if t.1 = 43 then _ else _) = _
    rw [if_neg nb, if_neg (by omega), if_pos ec]
  · refine r_sign (c := 45) ha (by omega) (fun t r et ec _ => b_f (by decide) ?_) (fun y => b_t rfl ?_)
    · refine more 45 1 t r et ec (Or.inr ⟨rfl, rfl⟩) ?_
      have nb := ha.nb t r et
      rw [et]
      unfold exR
      show (if t.1 = 1 then _ else if t.1 = 45 then _ else if t.1 = 43 then _ else _) = _
      rw [if_neg nb, if_pos ec]
    · have ee : exR lb loc ts acc = (0, acc, ts) := by
        cases ts with
        | nil => rfl
        | cons t r =>
          have nb := ha.nb t r rfl
          have n43 : t.1 ≠ 43 := by
            rcases z with z | ⟨t', r', er, z⟩
            · cases z
            · cases er
              rcases z with z | z
              · exact z
              · exact absurd (by unfold sgn; omega) z
          have n45 : t.1 ≠ 45 := by
            rcases y with y | ⟨t', r', er, y⟩
            · cases y
            · cases er
              rcases y with y | y
              · exact y
              · exact absurd (by unfold sgn; omega) y
          unfold exR
          show (if t.1 = 1 then _ else if t.1 = 45 then _ else if t.1 = 43 then _ else _) = _
          rw [if_neg nb, if_neg n45, if_neg n43]
      rw [ee] at h1
      simp only [f_R_expression_100]
      rw [r_mod]
      exact h1 rfl τ hf ha
theorem r_expr {τ : SS} {T : Nat → Nat} {len e loc : Nat} {lb : Lb} {ts : List Tk} {post : Int32 → SS → Prop} (hl : loc < 65536) (ha : AtR T e ts τ) (hv : LivR τ T len e lb loc) (h1 : (exE lb loc ts).1 = 0 → ∀ v, FrN τ v → AtR T e (exE lb loc ts).2.2 v → post ((exE lb loc ts).2.1 &&& 65535) v) (h2 : ∀ f, f = (exE lb loc ts).1 → ∀ r v, r < 65536 → FltR τ f v → post (nI r) v) : f_R_expression post τ := by
  have e25 : ∀ (ts' : List Tk) (m : Nat) (u : SS), m ≤ 1 → FrN τ u → AtR T e ts' u → exE lb loc ts = exT lb loc ts' m 0 → f_R_expression_25 post u (nI m) := by
    intro ts' m u hm hf hu ee
    rw [ee] at h1 h2
    have fin : ∀ (x : Int32) (w : SS) (f : Nat), f = (exT lb loc ts' m 0).1 → FltR τ f w → f_R_expression_41 post w x := fun x w f ef fl => r_41F fl.ne (fun r hr => h2 f ef r w hr fl)
    have ok : ∀ t2 r2, ts' = t2 :: r2 → tmF lb loc t2 = 0 → ∀ w, FrN u w → AtR T e r2 w → f_R_expression_41 post w (sg m (tmV lb loc t2)) := by
      intro t2 r2 er2 ht2 w w1 w2
      have e2 : exT lb loc ts' m 0 = exR lb loc r2 (sg m (tmV lb loc t2)) := by
        rw [er2, exT_R2 ht2 w2.nb, Int32.zero_add]
      rw [e2] at h1 h2
      exact ⟨r2.length + 1, r_42 hl r2.length r2 w _ _ (by omega) (by omega) (hf.trans w1) w2 ((hv.fr hf).fr w1) h1 h2⟩
    have hm01 : m = 0 ∨ m = 1 := by omega
    simp only [f_R_expression_25]
    rcases hm01 with z | z
    · rw [z]
      refine b_t rfl (r_term hu (hv.fr hf) hl (fun t2 r2 er2 ht2 w w1 w2 => ?_) (fun t2 s2 r2 er2 ht2 es2 x w fl => ?_) (fun f hf' x w fl => ?_))
      · have := ok t2 r2 er2 ht2 w w1 w2
        unfold sg at this
        rw [if_neg (by omega)] at this
        exact this
      · exact fin x w 1 (by rw [er2, exT_R1 ht2 es2]) (FltR.up hf fl)
      · exact fin x w f (exT_F hf') (FltR.up hf fl)
    · rw [z]
      refine b_f (by decide) (r_term hu (hv.fr hf) hl (fun t2 r2 er2 ht2 w w1 w2 => ?_) (fun t2 s2 r2 er2 ht2 es2 x w fl => ?_) (fun f hf' x w fl => ?_))
      · have := ok t2 r2 er2 ht2 w w1 w2
        unfold sg at this
        rw [if_pos z] at this
        exact this
      · exact fin (-x) w 1 (by rw [er2, exT_R1 ht2 es2]) (FltR.up hf fl)
      · exact fin (-x) w f (exT_F hf') (FltR.up hf fl)
  have e20 : ∀ (t : Tk) (r : List Tk) (m : Nat), ts = t :: r → m ≤ 1 → exE lb loc ts = exT lb loc r m 0 → f_R_expression_20 post τ (nI m) := by
    intro t r m et hm ee
    have ha' := ha
    rw [et] at ha'
    refine r_go ha' hv (fun v g1 g2 => e25 r m v hm g1 g2 ee) (fun s r' er es v g => ?_)
    have ef : 1 = (exE lb loc ts).1 := by rw [ee]; exact exT_F (Or.inr ⟨s, r', er, by unfold tmF; rw [if_pos es], by omega⟩)
    have f41 : ∀ x : Int32, f_R_expression_41 post v x := fun x => r_41F g.ne (fun r hr => h2 1 ef r v hr g)
    exact b_c (fun _ => r_termF g.ne (f41 _)) (fun _ => r_termF g.ne (f41 _))
  simp only [f_R_expression]
  refine r_sign (c := 45) ha (by omega) (fun t r et ec _ => ?_) (fun z => ?_)
  · refine r_signF (fun r2 => ?_)
    have ee : exE lb loc ts = exT lb loc r 1 0 := by
      rw [et]
      show (if t.1 = 45 then _ else if t.1 = 43 then _ else _) = _
      rw [if_pos ec]
    have := e20 t r 1 et (by omega) ee
    exact b_c (fun _ => b_f (by decide) this) (fun _ => this)
  · refine r_sign (c := 43) ha (by omega) (fun t r et ec _ => b_f (by decide) ?_) (fun y => b_t rfl (b_t rfl ?_))
    · have ee : exE lb loc ts = exT lb loc r 0 0 := by
        rw [et]
        show (if t.1 = 45 then _ else if t.1 = 43 then _ else _) = _
        rw [if_neg (by omega), if_pos ec]
      exact e20 t r 0 et (by omega) ee
    · refine e25 ts 0 τ (by omega) (FrN.refl _) ha ?_
      cases ts with
      | nil => unfold exE exT; rfl
      | cons t r =>
        have n43 : t.1 ≠ 43 := by
          rcases y with y | ⟨t', r', er, y⟩
          · cases y
          · cases er
            rcases y with y | y
            · exact y
            · exact absurd (by unfold sgn; omega) y
        have n45 : t.1 ≠ 45 := by
          rcases z with z | ⟨t', r', er, z⟩
          · cases z
          · cases er
            rcases z with z | z
            · exact z
            · exact absurd (by unfold sgn; omega) z
        show (if t.1 = 45 then _ else if t.1 = 43 then _ else _) = _
        rw [if_neg n45, if_neg n43]
