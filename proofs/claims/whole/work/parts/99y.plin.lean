/-! the pure side: lines, the class -/
def stS (cs : List Nat) : Nat → Nat → Nat
  | 0, i => i
  | n + 1, i => if fbN i cs = 4294967295 then stS cs n (i + 1) else i
/-- the statement of a name; 34 for none -/
def stN (cs : List Nat) : Nat := stS cs 34 0
theorem stS_e {cs : List Nat} {t : Nat} (h1 : ∀ i, i < t → fbN i cs = 4294967295) (h2 : fbN t cs ≠ 4294967295 ∨ t = 34) (ht : t ≤ 34) : ∀ n i, i + n = 34 → i ≤ t → stS cs n i = t := by
  intro n
  induction n with
  | zero => intro i hi hit; show i = t; omega
  | succ n ih =>
    intro i hi hit
    show (if fbN i cs = 4294967295 then stS cs n (i + 1) else i) = t
    by_cases c : i = t
    · subst c
      rcases h2 with z | z
      · rw [if_neg z]
      · omega
    · rw [if_pos (h1 i (by omega))]; exact ih (i + 1) (by omega) (by omega)
theorem stN_cls {cs : List Nat} (h : isN cs) : Cls cs (stN cs) := by
  obtain ⟨t, ht⟩ := cls_all h
  have e : stN cs = t := stS_e ht.2.1 ht.2.2.1 (by have := ht.1; omega) 34 0 (by omega) (by omega)
  rw [e]; exact ht
/-- the fault of a label told here -/
def dfF (lb : Lb) (cs : List Nat) : Nat := if cs = [46] ∨ givN cs ≠ 4294967295 ∨ stN cs ≠ 34 ∨ lkL lb cs ≠ 4294967295 then 4 else if 200 ≤ lb.length then 7 else 0
theorem getD_lb {lb : Lb} {c : List Nat × Nat} {i : Nat} (h : i < (lb ++ [c]).length) : (lb ++ [c]).getD i ([], 0) = if i = lb.length then c else lb.getD i ([], 0) := by
  rw [List.length_append] at h
  simp only [List.length_cons, List.length_nil] at h
  by_cases e : i = lb.length
  · subst e; simp
  · rw [if_neg e]
    simp [List.getD, List.getElem?_append_left (show i < lb.length by omega)]
theorem uL_at (f : Nat → Int64) (i : Nat) (v : Int64) (j : Nat) : vp_updL f i v j = if j = i then v else f j := by
  simp [vp_updL]
theorem LbT.snoc {n : Int32} {K : Nat → Int64} {P : Nat → Int32} {lb : Lb} {cs : List Nat} {loc : Nat} (h : LbT n K P lb) (hc : isN cs) (hl : loc < 65536) (h2 : lb.length < 200) : LbT (nI (lb.length + 1)) (vp_updL K lb.length (jI (nameC cs))) (upd P lb.length (nI loc)) (lb ++ [(cs, loc)]) := by
  obtain ⟨t1, t2, t3⟩ := h
  refine ⟨by rw [List.length_append, List.length_singleton]; omega, by rw [List.length_append]; rfl, fun i hi => ?_⟩
  rw [getD_lb hi, uL_at, u_at]
  rw [List.length_append, List.length_singleton] at hi
  by_cases c : i = lb.length
  · rw [if_pos c, if_pos c, if_pos c]; exact ⟨hc, hl, rfl, rfl⟩
  · rw [if_neg c, if_neg c, if_neg c]; exact t3 i (by omega)
/-- labels leave the words alone -/
def FrM (σ u : SS) : Prop := FrA σ u ∧ u.1 26 = σ.1 26 ∧ u.2.1 20 = σ.2.1 20 ∧ u.2.1 21 = σ.2.1 21 ∧ u.1 33 = σ.1 33
theorem FrM.refl (σ : SS) : FrM σ σ := ⟨FrA.refl σ, rfl, rfl, rfl, rfl⟩
theorem FrM.trans {a b c : SS} (h : FrM a b) (g : FrM b c) : FrM a c := ⟨h.1.trans g.1, g.2.1.trans h.2.1, g.2.2.1.trans h.2.2.1, g.2.2.2.1.trans h.2.2.2.1, g.2.2.2.2.trans h.2.2.2.2⟩
theorem AdvC.frm {σ u : SS} {ts : List Tk} (h : AdvC σ u ts) : FrM σ u := by
  refine ⟨h.fr, ?_⟩
  obtain ⟨⟨x, rfl⟩, _⟩ := h
  exact ⟨rfl, rfl, rfl, rfl⟩
theorem FltC.fra {σ u v : SS} {f : Nat} (g : FrA σ u) (h : FltC u f v) : FltC σ f v := ⟨h.1, h.2.1, by rw [h.2.2.1, g.1 31 (by omega) (by omega) (by omega) (by omega) (by omega) (by omega) (by omega) (by omega) (by omega)], g.trans h.2.2.2.1, h.2.2.2.2⟩
theorem c_def {σ : SS} {lb : Lb} {loc : Nat} {cs : List Nat} {ts : List Tk} {post : SS → Prop} (hn : isN cs) (hl : loc < 65536) (hA : AtC σ ts) (hv : LivC σ lb loc)
    (h1 : dfF lb cs = 0 → ∀ u, FrM σ u → AtC u ts → LivC u (lb ++ [(cs, loc)]) loc → post u) (h2 : ∀ f, f = dfF lb cs → f ≠ 0 → ∀ u, FltC σ f u → post u) : f_A_define post σ (jI (nameC cs)) := by
  obtain ⟨v0, v1, v2, v3⟩ := id hv
  have inv := hA.inv v1 v2
  have e46 : (3314649325744685056 : Int64) = jI (nameC [46]) := by decide
  have cl := stN_cls hn
  have bad : (cs = [46] ∨ givN cs ≠ 4294967295 ∨ stN cs ≠ 34 ∨ lkL lb cs ≠ 4294967295) → f_A_define_43 post σ (jI (nameC cs)) 1 := by
    intro z
    refine b_f (by decide) (c_comp v0 (h2 4 ?_ (by omega) _ (c_flt inv (by omega))))
    unfold dfF
    rw [if_pos z]
  have good : ¬ (cs = [46] ∨ givN cs ≠ 4294967295 ∨ stN cs ≠ 34 ∨ lkL lb cs ≠ 4294967295) → f_A_define_43 post σ (jI (nameC cs)) 0 := by
    intro z
    unfold dfF at h1 h2
    rw [if_neg z] at h1 h2
    refine b_t rfl ?_
    rcases v2 with ⟨b, hT⟩ | ⟨b, hT⟩
    · refine b_t b ?_
      obtain ⟨t1, t2, t3⟩ := id hT
      by_cases c : lb.length < 200
      · rw [if_neg (by omega)] at h1
        refine b_t (by rw [t2, q_lit, q_lt (by omega) (by omega)]; exact c) ⟨by rw [t2, q_in (by omega)]; omega, by show vp_in (σ.1 37) 200; rw [t2, q_in (by omega)]; omega, b_f (by decide) (h1 rfl _ ?_ hA ?_)⟩
        · refine ⟨⟨fun k a1 a2 a3 a4 a5 a6 a7 a8 a9 => ?_, fun k a1 a2 a3 a4 a5 => ?_, rfl, fun k a1 a2 => ?_, fun _ => ⟨rfl, rfl, rfl⟩, fun z2 => ?_⟩, rfl, rfl, rfl, rfl⟩
          · rw [sI_1, if_neg a8]; rfl
          · rw [sI_2, sA_2, if_neg a1]; rfl
          · show (sB σ 15 _ _).2.2.2 k = _
            rw [sB_4, if_neg a1]
          · rw [b] at z2; exact absurd z2 (by decide)
        · refine ⟨v0, v1, Or.inl ⟨b, ?_⟩, v3⟩
          show LbT (σ.1 37 + nI 1) (vp_updL (σ.2.2.2 15) (σ.1 37).toNatClampNeg (jI (nameC cs))) (upd (σ.2.1 16) (σ.1 37).toNatClampNeg (σ.1 30)) _
          have := hT.snoc hn hl c
          rw [t2, q_cl (by omega), v3, q_add]
          exact this
      · rw [if_pos (by omega)] at h2
        refine b_f (by rw [t2, q_lit, q_lt (by omega) (by omega)]; exact c) (b_t rfl (c_comp v0 (h2 7 rfl (by omega) _ (c_flt inv (by omega)))))
    · refine b_f (by rw [b]; decide) ?_
      obtain ⟨t1, t2, t3⟩ := id hT
      by_cases c : lb.length < 200
      · rw [if_neg (by omega)] at h1
        refine b_t (by rw [t2, q_lit, q_lt (by omega) (by omega)]; exact c) ⟨by rw [t2, q_in (by omega)]; omega, by show vp_in (σ.1 38) 200; rw [t2, q_in (by omega)]; omega, b_f (by decide) (h1 rfl _ ?_ hA ?_)⟩
        · refine ⟨⟨fun k a1 a2 a3 a4 a5 a6 a7 a8 a9 => ?_, fun k a1 a2 a3 a4 a5 => ?_, rfl, fun k a1 a2 => ?_, fun z2 => ?_, fun _ => ⟨rfl, rfl, rfl⟩⟩, rfl, rfl, rfl, rfl⟩
          · rw [sI_1, if_neg a9]; rfl
          · rw [sI_2, sA_2, if_neg a2]; rfl
          · show (sB σ 18 _ _).2.2.2 k = _
            rw [sB_4, if_neg a2]
          · rw [b] at z2; exact absurd z2 (by decide)
        · refine ⟨v0, v1, Or.inr ⟨b, ?_⟩, v3⟩
          show LbT (σ.1 38 + nI 1) (vp_updL (σ.2.2.2 18) (σ.1 38).toNatClampNeg (jI (nameC cs))) (upd (σ.2.1 19) (σ.1 38).toNatClampNeg (σ.1 30)) _
          have := hT.snoc hn hl c
          rw [t2, q_cl (by omega), v3, q_add]
          exact this
      · rw [if_pos (by omega)] at h2
        refine b_f (by rw [t2, q_lit, q_lt (by omega) (by omega)]; exact c) (b_t rfl (c_comp v0 (h2 7 rfl (by omega) _ (c_flt inv (by omega)))))
  have ll : lkL lb cs = 4294967295 ∨ lkL lb cs < 65536 := by
    refine lkL_lt ?_
    rcases v2 with ⟨_, _, _, h⟩ | ⟨_, _, _, h⟩
    · exact fun i hi => (h i hi).2.1
    · exact fun i hi => (h i hi).2.1
  simp only [f_A_define]
  rw [e46]
  refine b_c (fun z => bad ?_) (fun z => ?_)
  · rw [q_lit, j_c0, eqC hn isN_46] at z; exact Or.inl z
  · rw [q_lit, j_c0, eqC hn isN_46] at z
    refine c_giv hn (b_c (fun y => ?_) (fun y => bad ?_))
    · rw [q_lit, q_n1, q_eq (by rcases givN_lt cs with x | x <;> omega) (by omega)] at y
      refine c_named hn cl.1 cl.2.1 cl.2.2.1 ⟨cl.1, b_c (fun x => ?_) (fun x => bad (Or.inr (Or.inr (Or.inl x))))⟩
      refine c_find hn v2 (b_c (fun w => good ?_) (fun w => bad ?_))
      · rw [q_lit, q_n1, q_eq (by omega) (by omega)] at w
        rintro (k | k | k | k)
        · exact z k
        · exact k y
        · exact k x
        · exact k w
      · rw [q_lit, q_n1, q_eq (by omega) (by omega)] at w
        exact Or.inr (Or.inr (Or.inr w))
    · rw [q_lit, q_n1, q_eq (by rcases givN_lt cs with x | x <;> omega) (by omega)] at y
      exact Or.inr (Or.inl y)
/-- labels before a statement: a fault, the labels, what stands behind them -/
def labs (p loc : Nat) : Lb → List Tk → Nat × Lb × List Tk
  | lb, [] => (0, lb, [])
  | lb, [t] => (if t.1 = 1 then 1 else 0, lb, [t])
  | lb, t :: s :: r => if t.1 = 1 then (1, lb, []) else if t.1 = 2 then (if s.1 = 1 then (1, lb, []) else if s.1 = 58 then (if p = 1 then (if dfF lb t.2.2 = 0 then labs p loc (lb ++ [(t.2.2, loc)]) r else (dfF lb t.2.2, lb, [])) else labs p loc lb r) else (0, lb, t :: s :: r)) else (0, lb, t :: s :: r)
theorem labs_c (p loc : Nat) (lb : Lb) (t s : Tk) (r : List Tk) : labs p loc lb (t :: s :: r) = if t.1 = 1 then (1, lb, []) else if t.1 = 2 then (if s.1 = 1 then (1, lb, []) else if s.1 = 58 then (if p = 1 then (if dfF lb t.2.2 = 0 then labs p loc (lb ++ [(t.2.2, loc)]) r else (dfF lb t.2.2, lb, [])) else labs p loc lb r) else (0, lb, t :: s :: r)) else (0, lb, t :: s :: r) := by rw [labs]
theorem labs_b {p loc : Nat} {lb : Lb} {t : Tk} {r : List Tk} (h : t.1 = 1) : (labs p loc lb (t :: r)).1 = 1 := by
  cases r with
  | nil => show (if t.1 = 1 then 1 else 0) = 1; rw [if_pos h]
  | cons s r => rw [labs_c, if_pos h]
theorem labs_n {p loc : Nat} {lb : Lb} {t : Tk} {r : List Tk} (h : t.1 ≠ 1) (h2 : t.1 ≠ 2) : labs p loc lb (t :: r) = (0, lb, t :: r) := by
  cases r with
  | nil => show (if t.1 = 1 then 1 else 0, lb, [t]) = _; rw [if_neg h]
  | cons s r => rw [labs_c, if_neg h, if_neg h2]
theorem labs_s {p loc : Nat} {lb : Lb} {t : Tk} {r : List Tk} (h2 : t.1 = 2) (h : r = [] ∨ ∃ s r', r = s :: r' ∧ s.1 ≠ 58 ∧ s.1 ≠ 1) : labs p loc lb (t :: r) = (0, lb, t :: r) := by
  rcases h with h | ⟨s, r', h, a, b⟩
  · subst h
    show (if t.1 = 1 then 1 else 0, lb, [t]) = _
    rw [if_neg (by omega)]
  · subst h
    rw [labs_c, if_neg (by omega), if_pos h2, if_neg b, if_neg a]
theorem labs_1 {p loc : Nat} {lb : Lb} {t s : Tk} {r : List Tk} (h2 : t.1 = 2) (h : s.1 = 1) : (labs p loc lb (t :: s :: r)).1 = 1 := by
  rw [labs_c, if_neg (by omega), if_pos h2, if_pos h]
theorem labs_0 {p loc : Nat} {lb : Lb} {t s : Tk} {r : List Tk} (h2 : t.1 = 2) (h : s.1 = 58) (hp : p ≠ 1) : labs p loc lb (t :: s :: r) = labs p loc lb r := by
  rw [labs_c, if_neg (by omega), if_pos h2, if_neg (by omega), if_pos h, if_neg hp]
theorem labs_d {p loc : Nat} {lb : Lb} {t s : Tk} {r : List Tk} (h2 : t.1 = 2) (h : s.1 = 58) (hp : p = 1) : labs p loc lb (t :: s :: r) = if dfF lb t.2.2 = 0 then labs p loc (lb ++ [(t.2.2, loc)]) r else (dfF lb t.2.2, lb, []) := by
  rw [labs_c, if_neg (by omega), if_pos h2, if_neg (by omega), if_pos h, if_pos hp]
/-- what stands behind labels: no bad item, nor a bad item behind a name -/
def okLn (ts : List Tk) : Prop := nbT ts ∧ ∀ t r, ts = t :: r → t.1 = 2 → nbT r ∧ ∀ s r', r = s :: r' → s.1 ≠ 58
theorem labs_ok {p loc : Nat} (k : Nat) : ∀ (ts : List Tk) (lb : Lb), ts.length ≤ k → (labs p loc lb ts).1 = 0 → okLn (labs p loc lb ts).2.2 := by
  induction k using Nat.strongRecOn with
  | _ k IH =>
  intro ts lb hk h0
  cases ts with
  | nil => exact ⟨nbT_nil, fun t r e => by cases e⟩
  | cons t r =>
    by_cases b : t.1 = 1
    · rw [labs_b b] at h0; omega
    · by_cases n : t.1 = 2
      · by_cases c : r = [] ∨ ∃ s r', r = s :: r' ∧ s.1 ≠ 58 ∧ s.1 ≠ 1
        · rw [labs_s n c]
          refine ⟨fun s' r' e => by cases e; exact b, fun t' r' e _ => ?_⟩
          cases e
          rcases c with c | ⟨s, r'', c, c1, c2⟩
          · subst c; exact ⟨nbT_nil, fun s r' e => by cases e⟩
          · subst c; exact ⟨fun s' r' e => by cases e; exact c2, fun s' r' e => by cases e; exact c1⟩
        · cases r with
          | nil => exact absurd (Or.inl rfl) c
          | cons s r' =>
            rw [List.length_cons, List.length_cons] at hk
            by_cases s1 : s.1 = 1
            · rw [labs_1 n s1] at h0; omega
            · by_cases s2 : s.1 = 58
              · by_cases hp : p = 1
                · rw [labs_d n s2 hp] at h0 ⊢
                  by_cases d : dfF lb t.2.2 = 0
                  · rw [if_pos d] at h0 ⊢
                    exact IH r'.length (by omega) r' _ (Nat.le_refl _) h0
                  · rw [if_neg d] at h0; exact absurd h0 d
                · rw [labs_0 n s2 hp] at h0 ⊢
                  exact IH r'.length (by omega) r' _ (Nat.le_refl _) h0
              · exact absurd (Or.inr ⟨s, r', rfl, s2, s1⟩) c
      · rw [labs_n b n]
        exact ⟨fun s' r' e => by cases e; exact b, fun t' r' e z => by cases e; exact absurd z n⟩
theorem s_labs2 {σ : SS} {x : Int32} {cnt : Nat} {post : SS → Prop} (hf : σ.1 32 ≠ nI 0) (c1 : σ.1 35 = nI cnt) (c2 : cnt ≤ 6001) (h : ∀ u, Saf σ u → post u) : ∀ k i u, i + k = cnt → Saf σ u → f_A_readLabels_2 post (k + 1) u x (nI i) := by
  have ne : ∀ {u}, Saf σ u → u.1 32 ≠ nI 0 := fun hu => by rw [hu.2.1]; exact hf
  intro k
  induction k with
  | zero =>
    intro i u hik hu
    have h35 : u.1 35 = nI cnt := by rw [← c1]; exact hu.2.2.2.1 35 (by omega) (by omega) (by omega) (by omega) (by omega) (by omega) (by omega) (by omega) (by omega)
    rw [f_A_readLabels_2, h35]
    exact b_t (by rw [q_le (by omega) (by omega)]; omega) (h _ hu)
  | succ k ih =>
    intro i u hik hu
    have h35 : u.1 35 = nI cnt := by rw [← c1]; exact hu.2.2.2.1 35 (by omega) (by omega) (by omega) (by omega) (by omega) (by omega) (by omega) (by omega) (by omega)
    have e72 : ∀ w, Saf σ w → f_A_readLabels_72 post (f_A_readLabels_2 post (k + 1)) w x (nI i) := by
      intro w hw
      simp only [f_A_readLabels_72, nm]
      rw [show nI i + 1 = nI (i + 1) from q_add i 1]
      exact ih (i + 1) w (by omega) hw
    rw [f_A_readLabels_2, h35]
    refine b_f (by rw [q_le (by omega) (by omega)]; omega) (s_look (ne hu) hu.1 (fun kd hk hk2 => b_c (fun z => ?_) (fun _ => h _ hu)))
    rw [q_lit, q_eq (by omega) (by omega)] at z
    refine s_name hu.1 (fun r => ?_)
    have h2 := hk2 (by omega)
    have s1 : Saf u (sI u 29 (u.1 29 + nI 1)) := s_adv hu.1 h2
    have s2 := hu.trans s1
    refine s_takes2 (c := 58) (ne s2) s2.1 (by omega) (by omega) (b_t rfl (h _ ?_)) (fun w hw => b_f (by decide) (b_c (fun _ => e72 w (s2.trans hw)) (fun _ => s_def (ne (s2.trans hw)) (s2.trans hw).1 (fun y hy => e72 y ((s2.trans hw).trans hy)))))
    obtain ⟨cnt2, a2, d1, d2, d3, d4⟩ := h2
    rw [sI_sI]
    refine hu.trans ⟨⟨⟨cnt2, a2, d1, d2, ?_, by omega⟩, hu.1.2⟩, rfl, rfl, (FrA.refl _).sI (by omega) _⟩
    show u.1 29 + nI 1 - 1 = nI a2
    rw [d3, q_add, q_lit, q_sub (by omega)]
    rfl
theorem c_labs {σ0 : SS} {p loc cnt : Nat} {post : SS → Prop} (hl : loc < 65536) (hp : p ≤ 1) (hc : cnt ≤ 6001) (k : Nat) : ∀ (ts : List Tk) (σ : SS) (lb : Lb) (i : Nat), ts.length ≤ k → i + ts.length < cnt → FrM σ0 σ → AtC σ ts → LivC σ lb loc → σ.1 35 = nI cnt → ((labs p loc lb ts).1 = 0 → ∀ u, FrM σ0 u → AtC u (labs p loc lb ts).2.2 → LivC u (labs p loc lb ts).2.1 loc → post u) → (∀ f, f = (labs p loc lb ts).1 → f ≠ 0 → ∀ u, FltC σ0 f u → post u) → f_A_readLabels_2 post (cnt - i + 1) σ (nI p) (nI i) := by
  induction k using Nat.strongRecOn with
  | _ k IH =>
  intro ts σ lb i hk hi hf hA hv h35 h1 h2
  have inv := hA.inv hv.2.1 hv.2.2.1
  obtain ⟨n, hn⟩ : ∃ n, cnt - i = n + 1 := ⟨cnt - i - 1, by omega⟩
  rw [hn, f_A_readLabels_2, h35]
  refine b_f (by rw [q_le (by omega) (by omega)]; omega) (c_look hA hv.1 (fun z => ?_) (fun t r er ok z => ?_) (fun t r er z => ?_))
  · subst z
    exact b_f (by decide) (h1 rfl σ hf hA hv)
  · subst er
    have kl := (kind_e ok).2.2
    by_cases k2 : t.1 = 2
    · rw [k2]
      refine b_t rfl ?_
      obtain ⟨e1, e2⟩ := it_name ok k2
      refine c_nameAt hA ?_
      rw [e1]
      have adv : AdvC σ (sI σ 29 (σ.1 29 + nI 1)) r := AdvC.tail hA
      have av := hv.adv adv
      have back : ∀ y : SS, (∃ a cnt', σ.1 29 = nI a ∧ σ.1 35 = nI cnt' ∧ cnt' ≤ 6001 ∧ a ≤ cnt') → y = sI σ 29 (σ.1 29 + nI 1) → sI y 29 (y.1 29 - 1) = σ := by
        rintro y ⟨a, cnt', g2, _⟩ rfl
        rw [sI_sI]
        have : (sI σ 29 (σ.1 29 + nI 1)).1 29 - 1 = σ.1 29 := by
          show σ.1 29 + nI 1 - 1 = σ.1 29
          rw [g2, q_add, q_lit, q_sub (by omega)]
          rfl
        rw [this, sI_self]
      have at0 : ∃ a cnt', σ.1 29 = nI a ∧ σ.1 35 = nI cnt' ∧ cnt' ≤ 6001 ∧ a ≤ cnt' := by
        obtain ⟨_, a, cnt', g2, g3, g4, g5, _⟩ := id hA
        exact ⟨a, cnt', g2, g3, g4, by omega⟩
      simp only [nm]
      refine c_takes (c := 58) adv.2 av.1 (by omega) (by omega) (fun y => b_t rfl ?_) (fun s r' er es u hu => b_f (by decide) ?_) (fun s r' er es => b_t rfl ?_)
      · have e : labs p loc lb (t :: r) = (0, lb, t :: r) := labs_s k2 y
        rw [e] at h1
        have bk := back _ at0 rfl
        have := h1 rfl σ hf hA hv
        rw [← bk] at this
        exact this
      · subst er
        rw [List.length_cons, List.length_cons] at hk hi
        have adv2 := adv.trans hu
        have fm := hf.trans adv2.frm
        have lv := hv.adv adv2
        have u35 : u.1 35 = nI cnt := by
          obtain ⟨⟨x, rfl⟩, _⟩ := adv2
          exact h35
        have nx : n + 1 = cnt - (i + 1) + 1 := by omega
        by_cases p1 : p = 1
        · rw [labs_d k2 es p1] at h1 h2
          refine b_f (by rw [p1]; decide) (c_def e2 hl adv2.2 lv (fun d w fw aw lw => ?_) (fun f ef nf w hw => ?_))
          · rw [if_pos d] at h1 h2
            simp only [f_A_readLabels_72, nm]
            rw [show nI i + 1 = nI (i + 1) from q_add i 1, nx]
            have w35 : w.1 35 = nI cnt := by rw [fw.1.1 35 (by omega) (by omega) (by omega) (by omega) (by omega) (by omega) (by omega) (by omega) (by omega)]; exact u35
            exact IH r'.length (by omega) r' w _ (i + 1) (Nat.le_refl _) (by omega) (fm.trans fw) aw lw w35 h1 h2
          · rw [if_neg (by omega)] at h2
            have hw' := FltC.fra fm.1 hw
            have w35 : w.1 35 = nI cnt := by rw [hw.2.2.2.1.1 35 (by omega) (by omega) (by omega) (by omega) (by omega) (by omega) (by omega) (by omega) (by omega)]; exact u35
            simp only [f_A_readLabels_72, nm]
            rw [show nI i + 1 = nI (i + 1) from q_add i 1]
            exact s_labs2 hw'.ne w35 hc (fun y hy => h2 f ef nf y (hw'.saf hy)) n (i + 1) w (by omega) (Saf.refl hw'.1)
        · obtain rfl : p = 0 := by omega
          rw [labs_0 k2 es (by omega)] at h1 h2
          refine b_t rfl ?_
          simp only [f_A_readLabels_72, nm]
          rw [show nI i + 1 = nI (i + 1) from q_add i 1, nx]
          exact IH r'.length (by omega) r' u _ (i + 1) (Nat.le_refl _) (by omega) fm adv2.2 lv u35 h1 h2
      · subst er
        have fl := c_flt (f := 1) (adv.2.inv av.2.1 av.2.2.1) (by omega)
        have fl0 := FltC.fra (hf.1.trans adv.fr) fl
        refine h2 1 (labs_1 k2 es).symm (by omega) _ ?_
        obtain ⟨_, a, cnt', g2, g3, g4, g5, _⟩ := id hA
        obtain ⟨i1, i2, i3⟩ := fl0.1
        refine ⟨⟨⟨cnt', a, g3, g4, ?_, by omega⟩, i2, i3⟩, fl0.2.1, fl0.2.2.1, fl0.2.2.2.1.sI (by omega) _, fl0.2.2.2.2⟩
        show σ.1 29 + nI 1 - 1 = nI a
        rw [g2, q_add, q_lit, q_sub (by omega)]
        rfl
    · rw [labs_n z k2] at h1
      exact b_f (by rw [q_lit, q_eq (by omega) (by omega)]; exact k2) (h1 rfl σ hf hA hv)
  · subst er
    exact b_f (by decide) (h2 1 (labs_b z).symm (by omega) _ (FltC.fra hf.1 (c_flt inv (by omega))))
