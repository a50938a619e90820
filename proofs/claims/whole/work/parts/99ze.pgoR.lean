/-! the pure side: the reference's pass over a text -/
theorem by_eq {c d : Nat} (hc : c < 256) (hd : d < 128) : (by8 c = nI d) = (c = d) := by
  rcases by_e hc with ⟨h, e⟩ | ⟨h, e⟩
  · rw [e, q_eq (by omega) (by omega)]
  · rw [e, q_eq (by omega) (by omega)]
    exact propext ⟨fun k => by omega, fun k => by omega⟩
def FrXx (τ v : SS) : Prop := (∀ k, k ≠ 13 → k ≠ 14 → k ≠ 15 → k ≠ 16 → (k < 18 ∨ 27 < k) → v.1 k = τ.1 k) ∧ (∀ k, k ≠ 11 → k ≠ 14 → k ≠ 15 → k ≠ 16 → k ≠ 17 → v.2.1 k = τ.2.1 k) ∧ (∀ k, k ≠ 10 → v.2.2.2 k = τ.2.2.2 k) ∧ Zf τ v
theorem FrXx.refl (τ : SS) : FrXx τ τ := ⟨fun _ _ _ _ _ _ => rfl, fun _ _ _ _ _ _ => rfl, fun _ _ => rfl, Zf.refl τ⟩
theorem FrXx.trans {a b c : SS} (h : FrXx a b) (g : FrXx b c) : FrXx a c := ⟨fun k h1 h2 h3 h4 h5 => (g.1 k h1 h2 h3 h4 h5).trans (h.1 k h1 h2 h3 h4 h5), fun k h1 h2 h3 h4 h5 => (g.2.1 k h1 h2 h3 h4 h5).trans (h.2.1 k h1 h2 h3 h4 h5), fun k h1 => (g.2.2.1 k h1).trans (h.2.2.1 k h1), h.2.2.2.trans g.2.2.2⟩
theorem FrG.x {a b : SS} (h : FrG a b) : FrXx a b := ⟨fun k h1 h2 _ h4 h5 => h.1 k h1 h2 h4 (by omega) (by omega) (by omega) (by omega), h.2.1, h.2.2⟩
theorem FrXx.sI {a b : SS} (h : FrXx a b) {k : Nat} (hk : k = 15 ∨ k = 16 ∨ (18 ≤ k ∧ k ≤ 27)) (v : Int32) : FrXx a (sI b k v) := ⟨fun j h1 h2 h3 h4 h5 => by rw [sI_1, if_neg (by omega)]; exact h.1 j h1 h2 h3 h4 h5, h.2.1, h.2.2.1, h.2.2.2.sI (by omega) (by omega) v⟩
theorem RTx.x {τ v : SS} {T : Nat → Nat} {len : Nat} (h : RTx τ T len) (f : FrXx τ v) : RTx v T len := ⟨h.1, by rw [f.1 12 (by omega) (by omega) (by omega) (by omega) (by omega)]; exact h.2.1, by rw [f.2.1 9 (by omega) (by omega) (by omega) (by omega) (by omega)]; exact h.2.2⟩
/-- the reference at the end of a text -/
def TxR (τ v : SS) (lb : Lb) (ws : Ws) : Prop := FrXx τ v ∧ v.1 13 = nI 0 ∧ LbR v lb ∧ MdR v ws
def FxR (τ v : SS) (f k : Nat) : Prop := FrXx τ v ∧ v.1 13 = nI f ∧ v.1 14 = nI k ∧ 0 < f ∧ f < 8
theorem lex_0 {T : Nat → Nat} {e s : Nat} {l : List Tk} (h : LexL T e s l) (hs : e ≤ s) : l = [] := by
  cases l with
  | nil => rfl
  | cons t r =>
    obtain ⟨q, n, hq, _, hk, _⟩ := h
    rcases hk with ⟨a, _, b, _⟩ | ⟨_, _, _, b, _⟩ <;> omega
theorem ln_0 (p : Nat) (lb : Lb) (loc : Nat) : lnG p lb loc [] = (0, lb, loc, []) := rfl
theorem r_59 {v : SS} {T : Nat → Nat} {len en e s : Nat} {p : Int32} {post : SS → Prop} {k12 : SS → Int32 → Int32 → Prop} (hT : RTx v T len) (h1 : e ≤ en) (h2 : en ≤ len) (hne : ∀ i, s ≤ i → i < e → T i ≠ 59) (he : e = en ∨ T e = 59) (h : f_R_pass_94 post k12 (sI v 21 (nI e)) p (nI s) (nI en)) : ∀ m i, i + m = e → s ≤ i → f_R_pass_59 post k12 (m + 1) (sI v 21 (nI i)) p (nI s) (nI en) := by
  obtain ⟨l6, t2, t3⟩ := hT
  intro m
  induction m with
  | zero =>
    intro i hi hs
    have : i = e := by omega
    subst this
    rw [f_R_pass_59]
    show br (nI en ≤ nI i) _ (vp_in (nI i) 6000 ∧ br (v.2.1 9 (nI i).toNatClampNeg = 59) _ _)
    by_cases c : i = en
    · exact b_t (by rw [q_le (by omega) (by omega)]; omega) h
    · refine b_f (by rw [q_le (by omega) (by omega)]; omega) ⟨by rw [q_in (by omega)]; omega, ?_⟩
      obtain ⟨c1, c2⟩ := t3 i (by omega)
      rw [q_cl (by omega), c2]
      refine b_t ?_ h
      rcases he with z | z
      · exact absurd z c
      · rw [q_lit, by_eq c1 (by omega)]; exact z
  | succ m ih =>
    intro i hi hs
    rw [f_R_pass_59]
    show br (nI en ≤ nI i) _ (vp_in (nI i) 6000 ∧ br (v.2.1 9 (nI i).toNatClampNeg = 59) _ _)
    refine b_f (by rw [q_le (by omega) (by omega)]; omega) ⟨by rw [q_in (by omega)]; omega, ?_⟩
    obtain ⟨c1, c2⟩ := t3 i (by omega)
    rw [q_cl (by omega), c2]
    refine b_f (by rw [q_lit, by_eq c1 (by omega)]; exact hne i hs (by omega)) ?_
    simp only [nm]
    show f_R_pass_59 post k12 (m + 1) (sI (sI v 21 (nI i)) 21 (nI i + 1)) p (nI s) (nI en)
    rw [sI_sI, show nI i + 1 = nI (i + 1) from q_add i 1]
    exact ih (i + 1) (by omega) (by omega)
theorem r_29 {v : SS} {T : Nat → Nat} {len en s : Nat} {p : Int32} {post : SS → Prop} {k12 : SS → Int32 → Int32 → Prop} (hT : RTx v T len) (h2 : en ≤ len) (hne : ∀ i, s ≤ i → i < en → T i ≠ 10) (he : en = len ∨ T en = 10) (h : f_R_pass_54 post k12 v p (nI s) (nI en)) : ∀ m i, i + m = en → s ≤ i → f_R_pass_29 post k12 (m + 1) v p (nI s) (nI i) := by
  obtain ⟨l6, t2, t3⟩ := hT
  intro m
  induction m with
  | zero =>
    intro i hi hs
    have : i = en := by omega
    subst this
    rw [f_R_pass_29, t2]
    by_cases c : i = len
    · exact b_t (by rw [q_le (by omega) (by omega)]; omega) h
    · refine b_f (by rw [q_le (by omega) (by omega)]; omega) ⟨by rw [q_in (by omega)]; omega, ?_⟩
      obtain ⟨c1, c2⟩ := t3 i (by omega)
      rw [q_cl (by omega), c2]
      refine b_t ?_ h
      rcases he with z | z
      · exact absurd z c
      · rw [q_lit, by_eq c1 (by omega)]; exact z
  | succ m ih =>
    intro i hi hs
    rw [f_R_pass_29, t2]
    refine b_f (by rw [q_le (by omega) (by omega)]; omega) ⟨by rw [q_in (by omega)]; omega, ?_⟩
    obtain ⟨c1, c2⟩ := t3 i (by omega)
    rw [q_cl (by omega), c2]
    refine b_f (by rw [q_lit, by_eq c1 (by omega)]; exact hne i hs (by omega)) ?_
    simp only [nm]
    rw [show nI i + 1 = nI (i + 1) from q_add i 1]
    exact ih (i + 1) (by omega) (by omega)
theorem r_goL {τ : SS} {T : Nat → Nat} {len p : Nat} {post : SS → Prop} (hp : p ≤ 1) (h6 : len ≤ 6000) : ∀ (ls : List (List Tk)) (v : SS) (lb : Lb) (loc : Nat) (ws : Ws) (k c s : Nat), TxtL T len s ls → RTx v T len → c + (fl ls).length ≤ 6001 → FrXx τ v → v.1 13 = nI 0 → LbR v lb → v.1 19 = nI loc → loc ≤ 32768 → v.1 15 = nI k → MdR v ws → 2 * ws.length ≤ c → Pre p lb loc ls →
    ((txG p lb loc ws k ls).1 = 0 → ∀ u, TxR τ u (txG p lb loc ws k ls).2.2.1 (txG p lb loc ws k ls).2.2.2.2 → post u) → (∀ f, f = (txG p lb loc ws k ls).1 → f ≠ 0 → ∀ u, FxR τ u f (txG p lb loc ws k ls).2.1 → post u) → f_R_pass_12 post (ls.length + 1) v (nI p) (nI s) := by
  intro ls
  induction ls with
  | nil => intro v lb loc ws k c s h; cases h
  | cons l r ih =>
    intro v lb loc ws k c s hx hT hcn hf h13 hL h19 hl h15 hM h2w hP h1 h2
    obtain ⟨en, e, x1, x2, x3, x4, x5, x6, x7, x8, x9⟩ := hx
    obtain ⟨l6, t2, t3⟩ := id hT
    have efl : (fl (l :: r)).length = l.length + ((fl r).length + 1) := by
      show (l.map itC ++ (10 :: fl r)).length = _
      rw [List.length_append, List.length_map, List.length_cons]
    rw [efl] at hcn
    rw [txG_c] at h1 h2
    rw [List.length_cons, f_R_pass_12, t2]
    by_cases sl : len ≤ s
    · have el : l = [] := lex_0 x8 (by omega)
      have er : r = [] := by
        rcases x9 with ⟨_, z⟩ | ⟨z, _⟩
        · exact z
        · omega
      subst el er
      rw [ln_0, if_pos rfl] at h1
      refine b_t (by rw [q_le (by omega) (by omega)]; exact sl) (h1 rfl v ⟨hf, h13, hL, ?_⟩)
      show MdR v (ws ++ [])
      rw [List.append_nil]; exact hM
    · refine b_f (by rw [q_le (by omega) (by omega)]; exact sl) (b_t h13 ⟨en - s + 1, r_29 hT x3 x4 x5 ?_ (en - s) s (by omega) (by omega)⟩)
      simp only [f_R_pass_54, nm]
      refine ⟨e - s + 1, r_59 hT x2 x3 x6 x7 ?_ (e - s) s (by omega) (by omega)⟩
      simp only [f_R_pass_94, nm]
      have e15 : (sI (sI v 21 (nI e)) 20 (nI s)).1 15 + 1 = nI (k + 1) := by
        show v.1 15 + nI 1 = _
        rw [h15, q_add]
      rw [e15]
      have fx : FrXx v (sI (sI (sI v 21 (nI e)) 20 (nI s)) 15 (nI (k + 1))) := (((FrXx.refl v).sI (by omega) _).sI (by omega) _).sI (by omega) _
      have hT' := hT.x fx
      have hw : ws.length < 6000 := by omega
      refine r_line (s := s) hp hl (by omega) hT' h13 rfl rfl x8 (hL.q rfl rfl rfl) h19 hM hw (fun z w hw' => ?_) (fun f ef w hw' => ?_)
      · rw [if_pos z] at h1 h2
        obtain ⟨g1, g2, g3, g4, g5⟩ := hw'
        have fw := fx.trans g1.x
        rw [show nI en + 1 = nI (en + 1) from q_add en 1]
        rcases x9 with ⟨y1, y2⟩ | ⟨y1, y2⟩
        · subst y2
          obtain ⟨_, w12, _⟩ := hT.x fw
          show f_R_pass_12 post (0 + 1) w _ _
          rw [f_R_pass_12, w12]
          exact b_t (by rw [q_le (by omega) (by omega)]; omega) (h1 rfl w ⟨hf.trans fw, g2, g3, g5⟩)
        · obtain ⟨pn, ln⟩ := Pre.nx hp hl hP z
          have w15 : w.1 15 = nI (k + 1) := g1.1 15 (by omega) (by omega) (by omega) (by omega) (by omega) (by omega) (by omega)
          refine ih w _ _ _ (k + 1) (c + l.length + 1) (en + 1) y2 (hT.x fw) (by omega) (hf.trans fw) g2 g3 g4 ln w15 g5 ?_ pn h1 h2
          have := ln_ws (p := p) (lb := lb) (loc := loc) (l := l)
          rw [List.length_append]
          omega
      · have p0 := hw'.2.2.2.1
        rw [if_neg (by omega)] at h2
        have fin : FxR τ w f (k + 1) := ⟨(hf.trans fx).trans hw'.1.x, hw'.2.1, hw'.2.2.1, hw'.2.2.2⟩
        have := h2 f ef (by omega) w fin
        rw [f_R_pass_12]
        exact b_c (fun _ => this) (fun _ => b_f hw'.ne this)
/-- a pass -/
theorem r_pass {τ : SS} {T : Nat → Nat} {len p : Nat} {ls : List (List Tk)} {lb : Lb} {ws : Ws} {post : SS → Prop} (hp : p ≤ 1) (h6 : len ≤ 6000) (hx : TxtL T len 0 ls) (hT : RTx τ T len) (hcn : (fl ls).length ≤ 6001) (h13 : τ.1 13 = nI 0) (hL : LbR τ lb) (hM : MdR τ ws) (hw : ws = []) (hP : Pre p lb 0 ls)
    (h1 : (txG p lb 0 ws 0 ls).1 = 0 → ∀ u, TxR τ u (txG p lb 0 ws 0 ls).2.2.1 (txG p lb 0 ws 0 ls).2.2.2.2 → post u) (h2 : ∀ f, f = (txG p lb 0 ws 0 ls).1 → f ≠ 0 → ∀ u, FxR τ u f (txG p lb 0 ws 0 ls).2.1 → post u) : f_R_pass post τ (nI p) := by
  simp only [f_R_pass, nm]
  refine ⟨ls.length + 1, ?_⟩
  have fx : FrXx τ (sI (sI τ 19 0) 15 0) := ((FrXx.refl τ).sI (by omega) _).sI (by omega) _
  exact r_goL hp h6 ls (sI (sI τ 19 0) 15 0) lb 0 ws 0 0 0 hx (hT.x fx) (by omega) fx h13 (hL.q rfl rfl rfl) rfl (by omega) rfl hM (by rw [hw]; exact Nat.le_refl _) hP h1 h2
