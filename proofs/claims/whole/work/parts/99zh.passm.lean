/-! the pure side: the assembler -/
theorem txG_len {p : Nat} {ls : List (List Tk)} : ∀ (lb : Lb) (loc : Nat) (ws : Ws) (k : Nat), 2 * (txG p lb loc ws k ls).2.2.2.2.length ≤ 2 * ws.length + (fl ls).length := by
  induction ls with
  | nil => intro lb loc ws k; exact Nat.le_refl _
  | cons l r ih =>
    intro lb loc ws k
    have efl : (fl (l :: r)).length = l.length + ((fl r).length + 1) := by
      show (l.map itC ++ (10 :: fl r)).length = _
      rw [List.length_append, List.length_map, List.length_cons]
    rw [txG_c, efl]
    by_cases z : (lnG p lb loc l).1 = 0
    · rw [if_pos z]
      have h1 := ih (lnG p lb loc l).2.1 (lnG p lb loc l).2.2.1 (ws ++ (lnG p lb loc l).2.2.2) (k + 1)
      have h2 := ln_ws (p := p) (lb := lb) (loc := loc) (l := l)
      rw [List.length_append] at h1
      omega
    · rw [if_neg z]
      show 2 * ws.length ≤ _
      omega
def p1 (ls : List (List Tk)) : Nat × Nat × Lb × Nat × Ws := txG 1 [] 0 [] 0 ls
def p2 (ls : List (List Tk)) : Nat × Nat × Lb × Nat × Ws := txG 0 (p1 ls).2.2.1 0 [] 0 ls
/-- what is made of a text: a fault and its line, labels, words -/
def asmF (ls : List (List Tk)) : Nat × Nat := if (p1 ls).1 = 0 then ((p2 ls).1, (p2 ls).2.1) else ((p1 ls).1, (p1 ls).2.1)
theorem pre_1 (lb : Lb) (ls : List (List Tk)) : Pre 1 lb 0 ls := fun k => absurd k (by omega)
theorem pre_2 {ls : List (List Tk)} (h : (p1 ls).1 = 0) : Pre 0 (p1 ls).2.2.1 0 ls := fun _ => ⟨[], cln_of _ _ _ _ h⟩
theorem ws_1 {ls : List (List Tk)} (h : (p1 ls).1 = 0) : (p1 ls).2.2.2.2 = [] := tx_w1 _ _ _ _ h
theorem ws_2 {ls : List (List Tk)} (h : (p1 ls).1 = 0) (h2 : (p2 ls).1 = 0) : WsOK (p2 ls).2.2.2.2 := txG_ok _ _ _ _ (by omega) (pre_2 h) (fun w hw => by cases hw) h2
theorem ws_3 {ls : List (List Tk)} (h : (fl ls).length ≤ 6001) : (p2 ls).2.2.2.2.length ≤ 3000 := by
  have := txG_len (p := 0) (ls := ls) (p1 ls).2.2.1 0 [] 0
  unfold p2
  rw [List.length_nil] at this
  omega
def AsR (τ v : SS) (lb : Lb) (ws : Ws) : Prop := (∀ k, k < 12 ∨ k = 28 → v.1 k = τ.1 k) ∧ (∀ k, (2 ≤ k ∧ k ≤ 8) ∨ k = 18 → v.2.1 k = τ.2.1 k) ∧ v.2.1 1 = putW (τ.2.1 1) ws ∧ v.1 12 = nI 0 ∧ v.1 13 = nI 0 ∧ v.1 14 = nI 0 ∧ v.1 17 = nI lb.length ∧ LbR v lb ∧ ∀ j, j < lb.length → v.2.2.2 12 j = v.2.2.2 10 j ∧ v.2.1 13 j = v.2.1 11 j
def AfR (τ v : SS) (f k : Nat) : Prop := (∀ k, k < 12 ∨ k = 28 → v.1 k = τ.1 k) ∧ (∀ k, (2 ≤ k ∧ k ≤ 8) ∨ k = 18 → v.2.1 k = τ.2.1 k) ∧ v.2.1 1 = τ.2.1 1 ∧ v.1 12 = nI 0 ∧ v.1 13 = nI f ∧ v.1 14 = nI k ∧ v.1 17 = τ.1 17 ∧ v.2.2.2 12 = τ.2.2.2 12 ∧ v.2.1 13 = τ.2.1 13
theorem r_42F {τ τ1 v : SS} {f k : Nat} {post : Int32 → SS → Prop} (hb : (∀ k, k < 12 ∨ k = 28 → τ1.1 k = τ.1 k) ∧ τ1.1 17 = τ.1 17 ∧ τ1.2 = τ.2) (hf : FrXx τ1 v) (h13 : v.1 13 = nI f) (h14 : v.1 14 = nI k) (n0 : ¬ v.1 13 = 0) (h2 : ∀ w, AfR τ w f k → post (-1) w) : f_R_assemble_42 post v := by
  obtain ⟨b1, b2, b3⟩ := hb
  simp only [f_R_assemble_42, nm]
  refine b_f n0 (h2 _ ⟨fun k hk => ?_, fun k hk => ?_, ?_, rfl, h13, h14, ?_, ?_, ?_⟩)
  · rw [sI_1, if_neg (by omega), hf.1 k (by omega) (by omega) (by omega) (by omega) (by omega)]; exact b1 k hk
  · show v.2.1 k = _
    rw [hf.2.1 k (by omega) (by omega) (by omega) (by omega) (by omega), b3]
  · show v.2.1 1 = _
    rw [hf.2.1 1 (by omega) (by omega) (by omega) (by omega) (by omega), b3]
  · show v.1 17 = _
    rw [hf.1 17 (by omega) (by omega) (by omega) (by omega) (by omega)]; exact b2
  · show v.2.2.2 12 = _
    rw [hf.2.2.1 12 (by omega), b3]
  · show v.2.1 13 = _
    rw [hf.2.1 13 (by omega) (by omega) (by omega) (by omega) (by omega), b3]
theorem r_asm {τ : SS} {T : Nat → Nat} {len : Nat} {ls : List (List Tk)} {post : Int32 → SS → Prop} (h6 : len ≤ 6000) (hx : TxtL T len 0 ls) (hT : RTx τ T len) (hcn : (fl ls).length ≤ 6001)
    (h1 : (asmF ls).1 = 0 → ∀ v, AsR τ v (p2 ls).2.2.1 (p2 ls).2.2.2.2 → post (nI (p2 ls).2.2.2.2.length) v) (h2 : (asmF ls).1 ≠ 0 → ∀ v, AfR τ v (asmF ls).1 (asmF ls).2 → post (-1) v) : f_R_assemble post τ := by
  simp only [f_R_assemble, nm]
  have hb : (∀ k, k < 12 ∨ k = 28 → (sI (sI (sI (sI (sI τ 29 0) 13 0) 14 0) 16 0) 18 0).1 k = τ.1 k) ∧ (sI (sI (sI (sI (sI τ 29 0) 13 0) 14 0) 16 0) 18 0).1 17 = τ.1 17 ∧ (sI (sI (sI (sI (sI τ 29 0) 13 0) 14 0) 16 0) 18 0).2 = τ.2 := by
    refine ⟨fun k hk => ?_, rfl, rfl⟩
    rw [sI_1, if_neg (by omega), sI_1, if_neg (by omega), sI_1, if_neg (by omega), sI_1, if_neg (by omega), sI_1, if_neg (by omega)]
  have hT1 : RTx (sI (sI (sI (sI (sI τ 29 0) 13 0) 14 0) 16 0) 18 0) T len := hT
  have e13 : (sI (sI (sI (sI (sI τ 29 0) 13 0) 14 0) 16 0) 18 0).1 13 = nI 0 := rfl
  have e14 : (sI (sI (sI (sI (sI τ 29 0) 13 0) 14 0) 16 0) 18 0).1 14 = nI 0 := rfl
  have eL : LbR (sI (sI (sI (sI (sI τ 29 0) 13 0) 14 0) 16 0) 18 0) [] := ⟨by simp, rfl, fun i hi => absurd hi (by simp)⟩
  have eM : MdR (sI (sI (sI (sI (sI τ 29 0) 13 0) 14 0) 16 0) 18 0) [] := ⟨rfl, fun i hi => absurd hi (by simp)⟩
  generalize sI (sI (sI (sI (sI τ 29 0) 13 0) 14 0) 16 0) 18 0 = τ1 at *
  unfold asmF at h1 h2
  refine r_pass (p := 1) (ls := ls) (lb := []) (ws := []) (by omega) h6 hx hT1 hcn e13 eL eM rfl (pre_1 _ _) (fun z v1 hv => ?_) (fun f ef nf v1 hv => ?_)
  · have z' : (p1 ls).1 = 0 := z
    rw [if_pos z'] at h1 h2
    obtain ⟨g1, g2, g3, g4⟩ := hv
    have g3' : LbR v1 (p1 ls).2.2.1 := g3
    have g4' : MdR v1 (p1 ls).2.2.2.2 := g4
    rw [ws_1 z'] at g4'
    have v14 : v1.1 14 = nI 0 := (g1.2.2.2 g2).2.trans e14
    refine b_t g2 (r_pass (p := 0) (ls := ls) (lb := (p1 ls).2.2.1) (ws := []) (by omega) h6 hx (hT1.x g1) hcn g2 g3' g4' rfl (pre_2 z') (fun y v2 hv2 => ?_) (fun f ef nf v2 hv2 => ?_))
    · have y' : (p2 ls).1 = 0 := y
      obtain ⟨q1, q2, q3, q4⟩ := hv2
      have q3' : LbR v2 (p2 ls).2.2.1 := q3
      have q4' : MdR v2 (p2 ls).2.2.2.2 := q4
      have w14 : v2.1 14 = nI 0 := (q1.2.2.2 q2).2.trans v14
      have fx := g1.trans q1
      have h1' := h1 y'
      have wl := ws_3 hcn
      have wo := ws_2 z' y'
      generalize (p2 ls).2.2.1 = lb at *
      generalize (p2 ls).2.2.2.2 = ws at *
      simp only [f_R_assemble_42, nm]
      refine b_t q2 ⟨ws.length + 1, ?_⟩
      have main := r_58 (v := sI v2 12 0) (ws := ws) (post := post) q4' wl wo ws.length 0 ((sI v2 12 0).2.1 1) (by omega)
      rw [setM_self, List.drop_zero] at main
      refine main (r_91 (lb := lb) (q3'.q rfl rfl rfl) (fun w a1 a2 a3 a4 => ?_))
      have e18 : (setM (sI v2 12 0) 1 (putW ((sI v2 12 0).2.1 1) ws)).1 18 = nI ws.length := q4'.1
      rw [e18]
      have w1 : ∀ k, k ≠ 12 → w.1 k = v2.1 k := by
        intro k hk
        rw [a1]
        show (sI v2 12 0).1 k = _
        rw [sI_1, if_neg hk]
      have w2 : ∀ k, k ≠ 13 → k ≠ 1 → w.2.1 k = v2.2.1 k := by
        intro k hk hk1
        rw [a2 k hk]
        show (if k = 1 then _ else v2.2.1 k) = _
        rw [if_neg hk1]
      have w3 : ∀ k, k ≠ 12 → w.2.2.2 k = v2.2.2.2 k := fun k hk => a3 k hk
      refine h1' _ ⟨fun k hk => ?_, fun k hk => ?_, ?_, ?_, ?_, ?_, rfl, ?_, fun j hj => ?_⟩
      · rw [sI_1, if_neg (by omega), w1 k (by omega), fx.1 k (by omega) (by omega) (by omega) (by omega) (by omega)]; exact hb.1 k hk
      · show w.2.1 k = _
        rw [w2 k (by omega) (by omega), fx.2.1 k (by omega) (by omega) (by omega) (by omega) (by omega), hb.2.2]
      · show w.2.1 1 = _
        rw [a2 1 (by omega)]
        show putW (v2.2.1 1) ws = _
        rw [fx.2.1 1 (by omega) (by omega) (by omega) (by omega) (by omega), hb.2.2]
      · show w.1 12 = _
        rw [a1]; rfl
      · show w.1 13 = _
        rw [w1 13 (by omega)]; exact q2
      · show w.1 14 = _
        rw [w1 14 (by omega)]; exact w14
      · refine q3'.q ?_ ?_ ?_
        · show w.1 16 = _
          exact w1 16 (by omega)
        · show w.2.1 11 = _
          exact w2 11 (by omega) (by omega)
        · show w.2.2.2 10 = _
          exact w3 10 (by omega)
      · obtain ⟨x1, x2⟩ := a4 j hj
        refine ⟨?_, ?_⟩
        · show w.2.2.2 12 j = w.2.2.2 10 j
          rw [x1, a3 10 (by omega)]
        · show w.2.1 13 j = w.2.1 11 j
          rw [x2, a2 11 (by omega)]
    · have n0 : (p2 ls).1 ≠ 0 := by show (txG 0 (p1 ls).2.2.1 0 [] 0 ls).1 ≠ 0; omega
      obtain ⟨q1, q2, q3, q4, q5⟩ := hv2
      refine r_42F hb (g1.trans q1) q2 q3 (f_n0 q2 q4 q5) (fun w hw => h2 n0 w ?_)
      show AfR τ w (p2 ls).1 (p2 ls).2.1
      rw [show (p2 ls).1 = f from ef.symm]
      exact hw
  · have n0 : (p1 ls).1 ≠ 0 := by show (txG 1 [] 0 [] 0 ls).1 ≠ 0; omega
    rw [if_neg n0] at h2
    obtain ⟨q1, q2, q3, q4, q5⟩ := hv
    have nz := f_n0 q2 q4 q5
    refine b_f nz (r_42F hb q1 q2 q3 nz (fun w hw => h2 n0 w ?_))
    show AfR τ w (p1 ls).1 (p1 ls).2.1
    rw [show (p1 ls).1 = f from ef.symm]
    exact hw
theorem FrP.s {σ u : SS} (h : FrP σ u) (k : Nat) (hk : k < 26 ∨ (33 < k ∧ k ≠ 37 ∧ k ≠ 38)) : u.1 k = σ.1 k := by
  have := h.1 k (by omega) (by omega) (by omega) (by omega) (by omega) (by omega) (by omega) (by omega) (by omega)
  rw [sI_1, if_neg (by omega)] at this
  exact this
theorem FrP.r {σ u : SS} (h : FrP σ u) (k : Nat) (hk : k ≠ 16 ∧ k ≠ 19 ∧ k ≠ 20 ∧ k ≠ 21 ∧ k ≠ 22) : u.2.1 k = σ.2.1 k := h.2.1 k hk.1 hk.2.1 hk.2.2.1 hk.2.2.2.1 hk.2.2.2.2
theorem FrP.l {σ u : SS} (h : FrP σ u) (k : Nat) (h1 : k ≠ 15) (h2 : k ≠ 18) : u.2.2.2 k = σ.2.2.2 k := h.2.2.2.1 k h1 h2
theorem FrP.trans {a b c : SS} (h : FrP a b) (g : FrP b c) : FrP a c := h.tr g
theorem FrP.t0 {σ u : SS} (h : FrP σ u) (e : σ.1 25 = nI 0) : u.1 38 = σ.1 38 ∧ u.2.1 19 = σ.2.1 19 ∧ u.2.2.2 18 = σ.2.2.2 18 := h.2.2.2.2.1 e
theorem FrP.t1 {σ u : SS} (h : FrP σ u) (e : σ.1 25 = nI 1) : u.1 37 = σ.1 37 ∧ u.2.1 16 = σ.2.1 16 ∧ u.2.2.2 15 = σ.2.2.2 15 := h.2.2.2.2.2 e
def AsC (σ u : SS) (lb : Lb) (ws : Ws) : Prop := (∀ k, k < 24 ∨ k = 39 → u.1 k = σ.1 k) ∧ (∀ k, k = 3 ∨ k = 5 ∨ k = 7 ∨ k = 24 → u.2.1 k = σ.2.1 k) ∧ u.2.1 2 = putW (σ.2.1 2) ws ∧ u.1 34 = nI 0 ∧ u.1 32 = nI 0 ∧ u.1 33 = nI 0 ∧ ((u.1 24 = nI 0 ∧ u.1 25 = nI 1 ∧ LbT (u.1 37) (u.2.2.2 15) (u.2.1 16) lb) ∨ (u.1 24 = nI 1 ∧ u.1 25 = nI 0 ∧ LbT (u.1 38) (u.2.2.2 18) (u.2.1 19) lb))
def AfC (σ u : SS) (f k : Nat) : Prop := (∀ k, k < 24 ∨ k = 39 → u.1 k = σ.1 k) ∧ (∀ k, k = 3 ∨ k = 5 ∨ k = 7 ∨ k = 24 → u.2.1 k = σ.2.1 k) ∧ u.2.1 2 = σ.2.1 2 ∧ u.1 34 = nI 0 ∧ u.1 32 = nI f ∧ u.1 33 = nI k ∧ u.1 24 = σ.1 24 ∧ u.1 25 = σ.1 25 ∧ (σ.1 25 = nI 0 → u.1 38 = σ.1 38 ∧ u.2.1 19 = σ.2.1 19 ∧ u.2.2.2 18 = σ.2.2.2 18) ∧ (σ.1 25 = nI 1 → u.1 37 = σ.1 37 ∧ u.2.1 16 = σ.2.1 16 ∧ u.2.2.2 15 = σ.2.2.2 15)
/-- behind begin -/
def BgC (σ y : SS) (ls : List (List Tk)) : Prop := (∀ k, k < 26 ∨ k = 34 ∨ k = 39 → y.1 k = σ.1 k) ∧ y.2.1 = σ.2.1 ∧ (∀ k, k ≠ 13 → y.2.2.2 k = σ.2.2.2 k) ∧ y.1 35 = nI (fl ls).length ∧ ItC y 0 (fl ls) ∧ y.1 26 = nI 0 ∧ y.1 32 = nI 0 ∧ y.1 33 = nI 0 ∧ ((σ.1 25 = nI 0 ∧ y.1 37 = nI 0 ∧ y.1 38 = σ.1 38) ∨ (σ.1 25 = nI 1 ∧ y.1 38 = nI 0 ∧ y.1 37 = σ.1 37))
theorem c_finF {σ y u : SS} {ls : List (List Tk)} {f k : Nat} {post : Int32 → SS → Prop} (hB : BgC σ y ls) (hf : FrP y u) (h32 : u.1 32 = nI f) (h33 : u.1 33 = nI k) (f0 : 0 < f) (f8 : f < 8) (h2 : ∀ w, AfC σ w f k → post (-1) w) : f_A_finish (fun r_8 σ_7 => post r_8 σ_7) u := by
  obtain ⟨b1, b2, b3, b4, b5, b6, b7, b8, b9⟩ := hB
  simp only [f_A_finish, nm]
  refine b_f (by show ¬ u.1 32 = 0; rw [h32, q_lit, q_eq (by omega) (by omega)]; omega) (h2 _ ⟨fun k hk => ?_, fun k hk => ?_, ?_, rfl, h32, h33, ?_, ?_, fun e => ?_, fun e => ?_⟩)
  · rw [sI_1, if_neg (by omega), hf.s k (by omega)]; exact b1 k (by omega)
  · show u.2.1 k = _
    rw [hf.r k (by omega), b2]
  · show u.2.1 2 = _
    rw [hf.r 2 (by omega), b2]
  · show u.1 24 = _
    rw [hf.s 24 (by omega)]; exact b1 24 (by omega)
  · show u.1 25 = _
    rw [hf.s 25 (by omega)]; exact b1 25 (by omega)
  · obtain ⟨x1, x2, x3⟩ := hf.t0 ((b1 25 (by omega)).trans e)
    rcases b9 with ⟨c1, c2, c3⟩ | ⟨c1, c2, c3⟩
    · exact ⟨x1.trans c3, x2.trans (by rw [b2]), x3.trans (b3 18 (by omega))⟩
    · rw [e] at c1; exact absurd c1 (by decide)
  · obtain ⟨x1, x2, x3⟩ := hf.t1 ((b1 25 (by omega)).trans e)
    rcases b9 with ⟨c1, c2, c3⟩ | ⟨c1, c2, c3⟩
    · rw [e] at c1; exact absurd c1 (by decide)
    · exact ⟨x1.trans c3, x2.trans (by rw [b2]), x3.trans (b3 15 (by omega))⟩
theorem c_asm2 {σ y : SS} {ls : List (List Tk)} {post : Int32 → SS → Prop} (ho : ∀ l ∈ ls, ∀ t ∈ l, okT t) (hcn : (fl ls).length ≤ 6001) (hB : BgC σ y ls) (hs : (σ.1 24 = nI 0 ∧ σ.1 25 = nI 1) ∨ (σ.1 24 = nI 1 ∧ σ.1 25 = nI 0))
    (h1 : (asmF ls).1 = 0 → ∀ u, AsC σ u (p2 ls).2.2.1 (p2 ls).2.2.2.2 → post (nI (p2 ls).2.2.2.2.length) u) (h2 : (asmF ls).1 ≠ 0 → ∀ u, AfC σ u (asmF ls).1 (asmF ls).2 → post (-1) u) : f_A_goThrough (fun σ_3 => f_A_goThrough (fun σ_5 => f_A_finish (fun r_8 σ_7 => post r_8 σ_7) σ_5) σ_3 0) y 1 := by
  obtain ⟨b1, b2, b3, b4, b5, b6, b7, b8, b9⟩ := id hB
  have eL : LbC y [] := by
    rcases b9 with ⟨c1, c2, c3⟩ | ⟨c1, c2, c3⟩
    · exact Or.inl ⟨(b1 25 (by omega)).trans c1, by simp, c2, fun i hi => absurd hi (by simp)⟩
    · exact Or.inr ⟨(b1 25 (by omega)).trans c1, by simp, c2, fun i hi => absurd hi (by simp)⟩
  have eM : MdC y [] := ⟨by simp, b6, fun i hi => absurd hi (by simp)⟩
  unfold asmF at h1 h2
  refine c_go (p := 1) (ls := ls) (lb := []) (ws := []) (by omega) hcn ho b4 rfl b5 b7 eL eM rfl (pre_1 _ _) (fun z u1 hu => ?_) (fun f ef nf u1 hu => ?_)
  · have z' : (p1 ls).1 = 0 := z
    rw [if_pos z'] at h1 h2
    obtain ⟨g1, g2, g3, g4, g5⟩ := hu
    have g3' : LbC u1 (p1 ls).2.2.1 := g3
    have g4' : MdC u1 (p1 ls).2.2.2.2 := g4
    rw [ws_1 z'] at g4'
    refine c_go (p := 0) (ls := ls) (lb := (p1 ls).2.2.1) (ws := []) (by omega) hcn ho ((g1.s 35 (by omega)).trans b4) rfl (b5.fr (g1.l 13 (by omega) (by omega))) g2 g3' g4' rfl (pre_2 z') (fun x u2 hu2 => ?_) (fun f ef nf u2 hu2 => ?_)
    · have x' : (p2 ls).1 = 0 := x
      obtain ⟨q1, q2, q3, q4, q5⟩ := hu2
      have q3' : LbC u2 (p2 ls).2.2.1 := q3
      have q4' : MdC u2 (p2 ls).2.2.2.2 := q4
      have fp := g1.trans q1
      have h1' := h1 x'
      have wo := ws_2 z' x'
      have w33 : u2.1 33 = nI 0 := (q5.trans g5).trans b8
      generalize (p2 ls).2.2.1 = lb at *
      generalize (p2 ls).2.2.2.2 = ws at *
      simp only [f_A_finish, nm]
      refine b_t q2 ⟨ws.length + 1, ?_⟩
      have main := c_finL (u := sI u2 34 0) (ws := ws) (post := fun r_8 σ_7 => post r_8 σ_7) q4' wo ws.length 0 ((sI u2 34 0).2.1 2) (by omega)
      rw [setM_self, List.drop_zero] at main
      refine main ?_
      have y24 : u2.1 24 = σ.1 24 := (fp.s 24 (by omega)).trans (b1 24 (by omega))
      have y25 : u2.1 25 = σ.1 25 := (fp.s 25 (by omega)).trans (b1 25 (by omega))
      have s26 : u2.1 26 = nI ws.length := q4'.2.1
      have sc : ∀ (S : SS) k, S.1 = (sI u2 34 0).1 → k < 24 ∨ k = 39 → S.1 k = σ.1 k := by
        intro S k e hk
        rw [e, sI_1, if_neg (by omega), fp.s k (by omega)]; exact b1 k (by omega)
      have rw2 : ∀ k, k = 3 ∨ k = 5 ∨ k = 7 ∨ k = 24 → u2.2.1 k = σ.2.1 k := by
        intro k hk
        rw [fp.r k (by omega), b2]
      have m2 : u2.2.1 2 = σ.2.1 2 := by rw [fp.r 2 (by omega), b2]
      rcases hs with ⟨s1, s2⟩ | ⟨s1, s2⟩
      · refine b_t (by show u2.1 24 = 0; rw [y24, s1]; rfl) (b_f (by show ¬ u2.1 25 = 0; rw [y25, s2]; decide) ?_)
        show post (u2.1 26) _
        rw [s26]
        refine h1' _ ⟨fun k hk => ?_, fun k hk => ?_, ?_, rfl, q2, w33, Or.inr ⟨rfl, rfl, ?_⟩⟩
        · rw [sI_1, if_neg (by omega), sI_1, if_neg (by omega)]
          exact sc (setM (sI u2 34 0) 2 _) k rfl hk
        · show (if k = 2 then _ else u2.2.1 k) = _
          rw [if_neg (by omega)]; exact rw2 k hk
        · show putW (u2.2.1 2) ws = _
          rw [m2]
        · rcases q3' with ⟨e, _⟩ | ⟨_, hT⟩
          · rw [y25, s2] at e; exact absurd e (by decide)
          · exact hT
      · refine b_f (by show ¬ u2.1 24 = 0; rw [y24, s1]; decide) (b_t (by show u2.1 25 = 0; rw [y25, s2]; rfl) ?_)
        show post (u2.1 26) _
        rw [s26]
        refine h1' _ ⟨fun k hk => ?_, fun k hk => ?_, ?_, rfl, q2, w33, Or.inl ⟨rfl, rfl, ?_⟩⟩
        · rw [sI_1, if_neg (by omega), sI_1, if_neg (by omega)]
          exact sc (setM (sI u2 34 0) 2 _) k rfl hk
        · show (if k = 2 then _ else u2.2.1 k) = _
          rw [if_neg (by omega)]; exact rw2 k hk
        · show putW (u2.2.1 2) ws = _
          rw [m2]
        · rcases q3' with ⟨_, hT⟩ | ⟨e, _⟩
          · exact hT
          · rw [y25, s2] at e; exact absurd e (by decide)
    · have n0 : (p2 ls).1 ≠ 0 := by show (txG 0 (p1 ls).2.2.1 0 [] 0 ls).1 ≠ 0; omega
      obtain ⟨q1, q2, q3, q4, q5⟩ := hu2
      refine c_finF hB (g1.trans q1) q2 q3 q4 q5 (fun w hw => h2 n0 w ?_)
      show AfC σ w (p2 ls).1 (p2 ls).2.1
      rw [show (p2 ls).1 = f from ef.symm]
      exact hw
  · have n0 : (p1 ls).1 ≠ 0 := by show (txG 1 [] 0 [] 0 ls).1 ≠ 0; omega
    rw [if_neg n0] at h2
    obtain ⟨q1, q2, q3, q4, q5⟩ := hu
    have fp : FrP y (sI (sI u1 30 0) 31 0) := by
      refine q1.tr (z := 0) ?_
      rw [sI_c _ _ _ (by omega)]
      exact (FrA.refl _).sI (by omega) _
    refine s_go (by rw [q2, Ne, q_eq (by omega) (by omega)]; omega) (c_finF hB fp q2 q3 q4 q5 (fun w hw => h2 n0 w ?_))
    show AfC σ w (p1 ls).1 (p1 ls).2.1
    rw [show (p1 ls).1 = f from ef.symm]
    exact hw
theorem pt_assemble (j : Nat) : PT_assemble (RelJ j) (RelJ (j + 1)) := by
  intro σ τ hR
  have hR : RelB (5000 * (j + 1)) σ τ := RelJ_mono j σ τ hR
  obtain ⟨⟨m1, m2, _, _⟩, _, _, _, _, _, _, _, ⟨n, n6, x34, x12, xt⟩, _, hk, _⟩ := id hR
  have hT : ∀ i, i < n → (σ.2.1 12 i).toNatClampNeg < 256 ∧ σ.2.1 12 i = nI (σ.2.1 12 i).toNatClampNeg ∧ τ.2.1 9 i = by8 (σ.2.1 12 i).toNatClampNeg := by
    intro i hi
    obtain ⟨c, c1, c2, c3⟩ := xt i hi
    rw [c2, q_cl (by omega)]
    exact ⟨c1, rfl, c3⟩
  obtain ⟨ls, hx, hfl, hsp⟩ := c_split (T := fun i => (σ.2.1 12 i).toNatClampNeg) n6 n 0 (by omega)
  have cT : CTx σ (fun i => (σ.2.1 12 i).toNatClampNeg) n := ⟨n6, x34, fun i hi => ⟨(hT i hi).1, (hT i hi).2.1⟩⟩
  have rT : RTx τ (fun i => (σ.2.1 12 i).toNatClampNeg) n := ⟨n6, x12, fun i hi => ⟨(hT i hi).1, (hT i hi).2.2⟩⟩
  have ho := txt_ok ls 0 hx
  have hcn : (fl ls).length ≤ 6001 := by omega
  have hs : (σ.1 24 = nI 0 ∧ σ.1 25 = nI 1) ∨ (σ.1 24 = nI 1 ∧ σ.1 25 = nI 0) := by
    rcases hk with ⟨a, b, _⟩ | ⟨a, b, _⟩
    · exact Or.inl ⟨a, b⟩
    · exact Or.inr ⟨a, b⟩
  have core : ∀ y, BgC σ y ls → f_A_goThrough (fun σ_3 => f_A_goThrough (fun σ_5 => f_A_finish (fun r_8 σ_7 => (fun r u => f_R_assemble (fun b9 v => r = b9 ∧ RelJ (j + 1) u v) τ) r_8 σ_7) σ_5) σ_3 0) y 1 := by
    intro y hB
    refine c_asm2 (post := fun r u => f_R_assemble (fun b9 v => r = b9 ∧ RelJ (j + 1) u v) τ) ho hcn hB hs (fun z u hu => ?_) (fun z u hu => ?_)
    · obtain ⟨u1, u2, u3, u4, u5, u6, u7⟩ := hu
      refine r_asm n6 hx rT hcn (fun _ v hv => ⟨rfl, ?_⟩) (fun k => absurd z k)
      obtain ⟨v1, v2, v3, v4, v5, v6, v7, v8, v9⟩ := hv
      have wo : WsOK (p2 ls).2.2.2.2 := by
        unfold asmF at z
        by_cases c : (p1 ls).1 = 0
        · rw [if_pos c] at z; exact ws_2 c z
        · rw [if_neg c] at z; exact absurd z c
      refine rel_asm hR u1 u2 v1 v2 (by rw [u3, v3, m1]) (by rw [u3]; exact putW_W m2 wo) u4 v4 ⟨u5.trans v5.symm, u6.trans v6.symm⟩ ?_
      rcases u7 with ⟨a, b, c⟩ | ⟨a, b, c⟩
      · exact Or.inl ⟨a, b, rlab c v8 v7 v9⟩
      · exact Or.inr ⟨a, b, rlab c v8 v7 v9⟩
    · obtain ⟨u1, u2, u3, u4, u5, u6, u7, u8, u9, u10⟩ := hu
      refine r_asm n6 hx rT hcn (fun k => absurd k z) (fun _ v hv => ⟨rfl, ?_⟩)
      obtain ⟨v1, v2, v3, v4, v5, v6, v7, v8, v9⟩ := hv
      refine rel_asm hR u1 u2 v1 v2 (by rw [u3, v3, m1]) (by rw [u3]; exact m2) u4 v4 ⟨u5.trans v5.symm, u6.trans v6.symm⟩ ?_
      rcases hk with ⟨a, b, c⟩ | ⟨a, b, c⟩
      · obtain ⟨d1, d2, d3⟩ := u10 b
        refine Or.inl ⟨u7.trans a, u8.trans b, ?_⟩
        rw [d1, d2, d3, v7, v8, v9]; exact c
      · obtain ⟨d1, d2, d3⟩ := u9 b
        refine Or.inr ⟨u7.trans a, u8.trans b, ?_⟩
        rw [d1, d2, d3, v7, v8, v9]; exact c
  simp only [f_N_assemble, f_A_begin, f_I_split, nm]
  refine ⟨n + 1, hsp (sI (sI σ 35 0) 36 0) 0 0 _ cT rfl rfl (by omega) (by omega) (fun u hu => ?_) (n + 1) (by omega)⟩
  obtain ⟨⟨f1, f2, f3, f4⟩, s1, s2, _, s4⟩ := hu
  have sc : ∀ k, k ≠ 35 → k ≠ 36 → u.1 k = σ.1 k := by
    intro k h1 h2
    rw [f1 k h1 h2, sI_1, if_neg h2, sI_1, if_neg h1]
  have it : ItC u 0 (fl ls) := s4
  have c35 : u.1 35 = nI (fl ls).length := by rw [s1, Nat.zero_add]
  rcases hs with ⟨_, s2'⟩ | ⟨_, s2'⟩
  · refine b_f (by rw [sc 25 (by omega) (by omega), s2']; decide) ?_
    simp only [f_L_clear_17, nm]
    refine core _ ⟨fun k hk => ?_, f2, fun k hk => f4 k hk, c35, it.fr rfl, rfl, rfl, rfl, Or.inr ⟨s2', rfl, ?_⟩⟩
    · rw [sI_1, if_neg (by omega), sI_1, if_neg (by omega), sI_1, if_neg (by omega), sI_1, if_neg (by omega)]
      exact sc k (by omega) (by omega)
    · exact sc 37 (by omega) (by omega)
  · refine b_t (by rw [sc 25 (by omega) (by omega), s2']; rfl) ?_
    simp only [f_L_clear_14, nm]
    refine core _ ⟨fun k hk => ?_, f2, fun k hk => f4 k hk, c35, it.fr rfl, rfl, rfl, rfl, Or.inl ⟨s2', rfl, ?_⟩⟩
    · rw [sI_1, if_neg (by omega), sI_1, if_neg (by omega), sI_1, if_neg (by omega), sI_1, if_neg (by omega)]
      exact sc k (by omega) (by omega)
    · exact sc 38 (by omega) (by omega)
