/-! the pure side: labels found stay as they are; both passes over lines -/
theorem lkL_ap {lb m : Lb} {cs : List Nat} (h : lkL lb cs ≠ 4294967295) : lkL (lb ++ m) cs = lkL lb cs := by
  induction lb with
  | nil => exact absurd rfl h
  | cons x r ih =>
    show (if x.1 = cs then x.2 else lkL (r ++ m) cs) = (if x.1 = cs then x.2 else lkL r cs)
    by_cases z : x.1 = cs
    · rw [if_pos z, if_pos z]
    · rw [if_neg z, if_neg z]
      refine ih ?_
      intro k
      apply h
      show (if x.1 = cs then x.2 else lkL r cs) = _
      rw [if_neg z]; exact k
theorem nmb_ap {lb m : Lb} {loc : Nat} {cs : List Nat} (h : nmb lb loc cs ≠ 4294967295) : nmb (lb ++ m) loc cs = nmb lb loc cs := by
  unfold nmb at h ⊢
  by_cases c : cs = [46]
  · rw [if_pos c, if_pos c]
  · rw [if_neg c] at h ⊢
    rw [if_neg c]
    by_cases g : givN cs = 4294967295
    · rw [if_pos g] at h ⊢
      rw [if_pos g]
      exact lkL_ap h
    · rw [if_neg g, if_neg g]
theorem tm_ap {lb : Lb} (m : Lb) {loc : Nat} {t : Tk} (h : tmF lb loc t = 0) : tmF (lb ++ m) loc t = 0 ∧ tmV (lb ++ m) loc t = tmV lb loc t := by
  unfold tmF tmV at *
  by_cases c1 : t.1 = 1
  · rw [if_pos c1] at h; omega
  · rw [if_neg c1] at h ⊢
    by_cases c2 : t.1 = 2
    · rw [if_pos c2] at h ⊢
      rw [if_pos c2, if_pos c2]
      by_cases n : nmb lb loc t.2.2 = 4294967295
      · rw [if_pos n] at h; omega
      · rw [nmb_ap n, if_neg n]; exact ⟨rfl, rfl⟩
    · rw [if_neg c2] at h ⊢
      rw [if_neg c2, if_neg c2]
      exact ⟨h, rfl⟩
theorem exT_ap {lb : Lb} (mm : Lb) {loc : Nat} (k : Nat) : ∀ (ts : List Tk) (m : Nat) (acc : Int32), ts.length ≤ k → (exT lb loc ts m acc).1 = 0 → exT (lb ++ mm) loc ts m acc = exT lb loc ts m acc := by
  induction k using Nat.strongRecOn with
  | _ k IH =>
  intro ts m acc hk h0
  match ts, hk, h0 with
  | [], _, h0 => unfold exT at h0; exact absurd (show (2 : Nat) = 0 from h0) (by omega)
  | [t], _, h0 =>
    have z : tmF lb loc t = 0 := by
      unfold exT at h0
      by_cases z : tmF lb loc t = 0
      · exact z
      · rw [if_neg z] at h0; exact absurd h0 z
    obtain ⟨a, b⟩ := tm_ap mm z
    rw [exT_R2 z (fun s' r' e => by cases e), exT_R2 a (fun s' r' e => by cases e), b]
    rfl
  | t :: s :: r, hk, h0 =>
    rw [List.length_cons, List.length_cons] at hk
    by_cases z : tmF lb loc t = 0
    · obtain ⟨a, b'⟩ := tm_ap mm z
      by_cases b : s.1 = 1
      · rw [exT_R1 z b] at h0; exact absurd (show (1 : Nat) = 0 from h0) (by omega)
      · have nb : ∀ s' r', s :: r = s' :: r' → s'.1 ≠ 1 := fun s' r' e => by cases e; exact b
        rw [exT_R2 z nb, exR_c, if_neg b] at h0
        rw [exT_R2 z nb, exT_R2 a nb, exR_c, exR_c, if_neg b, if_neg b, b']
        by_cases c1 : s.1 = 45
        · rw [if_pos c1] at h0
          rw [if_pos c1, if_pos c1]
          exact IH r.length (by omega) r _ _ (by omega) h0
        · rw [if_neg c1] at h0
          rw [if_neg c1, if_neg c1]
          by_cases c2 : s.1 = 43
          · rw [if_pos c2] at h0
            rw [if_pos c2, if_pos c2]
            exact IH r.length (by omega) r _ _ (by omega) h0
          · rw [if_neg c2, if_neg c2]
    · have := exT_F (m := m) (acc := acc) (ts := t :: s :: r) (lb := lb) (loc := loc) (Or.inr ⟨t, s :: r, rfl, rfl, z⟩)
      omega
theorem exE_ap {lb : Lb} (mm : Lb) {loc : Nat} {ts : List Tk} (h0 : (exE lb loc ts).1 = 0) : exE (lb ++ mm) loc ts = exE lb loc ts := by
  cases ts with
  | nil => exact absurd (show (2 : Nat) = 0 from h0) (by omega)
  | cons t r =>
    rw [exE_c] at h0
    rw [exE_c, exE_c]
    by_cases c1 : t.1 = 45
    · rw [if_pos c1] at h0
      rw [if_pos c1, if_pos c1]; exact exT_ap mm _ _ _ _ (Nat.le_refl _) h0
    · rw [if_neg c1] at h0
      rw [if_neg c1, if_neg c1]
      by_cases c2 : t.1 = 43
      · rw [if_pos c2] at h0
        rw [if_pos c2, if_pos c2]; exact exT_ap mm _ _ _ _ (Nat.le_refl _) h0
      · rw [if_neg c2] at h0
        rw [if_neg c2, if_neg c2]; exact exT_ap mm _ _ _ _ (Nat.le_refl _) h0
theorem mvG_ap {lb : Lb} (mm : Lb) {loc f : Nat} {ts : List Tk} (hf : f < 2) (h0 : (mvG lb loc f ts).1 = 0) : mvG (lb ++ mm) loc f ts = mvG lb loc f ts := by
  have er := rd_01 (lb := lb) (loc := loc) (ts := ts) hf
  have er2 := rd_01 (lb := lb ++ mm) (loc := loc) (ts := ts) hf
  have z : (exE lb loc ts).1 = 0 := by
    by_cases z : (exE lb loc ts).1 = 0
    · exact z
    · unfold mvG at h0
      rw [er, if_neg z, if_neg (show ¬ (exE lb loc ts).1 = 0 from z)] at h0
      exact absurd h0 z
  have : rd (lb ++ mm) loc f ts = rd lb loc f ts := by rw [er, er2, exE_ap mm z]
  unfold mvG
  rw [this]
theorem mvG_le {lb : Lb} {loc f : Nat} {ts : List Tk} (hl : loc ≤ 32768) : (mvG lb loc f ts).2 ≤ 32768 := by
  unfold mvG
  by_cases z : (rd lb loc f ts).1 = 0
  · rw [if_pos z]
    by_cases c : f = 0
    · rw [if_pos c]
      by_cases k : 32767 < (rd lb loc f ts).2.2.getD 0 0
      · rw [if_pos k]; exact hl
      · rw [if_neg k]; show (rd lb loc f ts).2.2.getD 0 0 ≤ 32768; omega
    · rw [if_neg c]
      by_cases k : 32768 < loc + (rd lb loc f ts).2.2.getD 0 0
      · rw [if_pos k]; exact hl
      · rw [if_neg k]; show loc + (rd lb loc f ts).2.2.getD 0 0 ≤ 32768; omega
  · rw [if_neg z]; exact hl
theorem labs_2 {loc : Nat} (k : Nat) : ∀ (ts : List Tk) (lb lbX : Lb), ts.length ≤ k → (labs 1 loc lb ts).1 = 0 → labs 0 loc lbX ts = (0, lbX, (labs 1 loc lb ts).2.2) ∧ ∃ m, (labs 1 loc lb ts).2.1 = lb ++ m := by
  induction k using Nat.strongRecOn with
  | _ k IH =>
  intro ts lb lbX hk h0
  cases ts with
  | nil => exact ⟨rfl, [], (List.append_nil _).symm⟩
  | cons t r =>
    by_cases b : t.1 = 1
    · rw [labs_b b] at h0; omega
    · by_cases n : t.1 = 2
      · by_cases c : r = [] ∨ ∃ s r', r = s :: r' ∧ s.1 ≠ 58 ∧ s.1 ≠ 1
        · rw [labs_s n c, labs_s n c]
          exact ⟨rfl, [], (List.append_nil _).symm⟩
        · cases r with
          | nil => exact absurd (Or.inl rfl) c
          | cons s r' =>
            rw [List.length_cons, List.length_cons] at hk
            by_cases s1 : s.1 = 1
            · rw [labs_1 n s1] at h0; omega
            · by_cases s2 : s.1 = 58
              · rw [labs_d n s2 rfl] at h0 ⊢
                rw [labs_0 n s2 (by omega)]
                by_cases d : dfF lb t.2.2 = 0
                · rw [if_pos d] at h0 ⊢
                  obtain ⟨a, m, e⟩ := IH r'.length (by omega) r' _ lbX (Nat.le_refl _) h0
                  exact ⟨a, (t.2.2, loc) :: m, by rw [e, List.append_assoc]; rfl⟩
                · rw [if_neg d] at h0; exact absurd h0 d
              · exact absurd (Or.inr ⟨s, r', rfl, s2, s1⟩) c
      · rw [labs_n b n, labs_n b n]
        exact ⟨rfl, [], (List.append_nil _).symm⟩
theorem isW_or (t : Tk) : isM t ∨ isW t ∨ ¬ (t.1 = 2 ∨ t.1 = 3 ∨ t.1 = 43 ∨ t.1 = 45) := by
  by_cases m : t.1 = 2 ∧ stN t.2.2 < 2
  · exact Or.inl m
  · by_cases w : t.1 = 2 ∨ t.1 = 3 ∨ t.1 = 43 ∨ t.1 = 45
    · exact Or.inr (Or.inl ⟨m, w⟩)
    · exact Or.inr (Or.inr w)
theorem ln_ext {lb : Lb} {loc : Nat} {l : List Tk} (h : (lnG 1 lb loc l).1 = 0) : ∃ m, (lnG 1 lb loc l).2.1 = lb ++ m := by
  unfold lnG at h ⊢
  by_cases z : (labs 1 loc lb l).1 = 0
  · rw [if_pos z]
    exact (labs_2 _ _ _ [] (Nat.le_refl _) z).2
  · rw [if_neg z] at h; exact absurd h z
theorem ln_le {lb : Lb} {loc : Nat} {l : List Tk} (hl : loc ≤ 32768) (h : (lnG 1 lb loc l).1 = 0) : (lnG 1 lb loc l).2.2.1 ≤ 32768 := by
  unfold lnG at h ⊢
  by_cases z : (labs 1 loc lb l).1 = 0
  · rw [if_pos z] at h ⊢
    cases e : (labs 1 loc lb l).2.2 with
    | nil => exact hl
    | cons t r =>
      rw [e] at h
      rcases isW_or t with m | w | n
      · rw [tlG_M m]; exact mvG_le hl
      · rw [tlG_W w, if_pos rfl] at h ⊢
        by_cases c : loc < 32768
        · show loc + 1 ≤ 32768; omega
        · rw [if_neg c] at h; exact absurd (show (7 : Nat) = 0 from h) (by omega)
      · rw [tlG_N n]; exact hl
  · rw [if_neg z] at h; exact absurd h z
/-- the second pass goes as the first -/
theorem ln_2 {lb1 m : Lb} {loc : Nat} {l : List Tk} (h : (lnG 1 lb1 loc l).1 = 0) : (∀ t r, (labs 0 loc ((lnG 1 lb1 loc l).2.1 ++ m) l).2.2 = t :: r → isW t → loc < 32768) ∧ ((lnG 0 ((lnG 1 lb1 loc l).2.1 ++ m) loc l).1 = 0 → (lnG 0 ((lnG 1 lb1 loc l).2.1 ++ m) loc l).2.1 = (lnG 1 lb1 loc l).2.1 ++ m ∧ (lnG 0 ((lnG 1 lb1 loc l).2.1 ++ m) loc l).2.2.1 = (lnG 1 lb1 loc l).2.2.1) := by
  have z : (labs 1 loc lb1 l).1 = 0 := by
    unfold lnG at h
    by_cases z : (labs 1 loc lb1 l).1 = 0
    · exact z
    · rw [if_neg z] at h; exact absurd h z
  have e1 : lnG 1 lb1 loc l = ((tlG 1 (labs 1 loc lb1 l).2.1 loc (labs 1 loc lb1 l).2.2).1, (labs 1 loc lb1 l).2.1, (tlG 1 (labs 1 loc lb1 l).2.1 loc (labs 1 loc lb1 l).2.2).2) := by
    unfold lnG
    rw [if_pos z]
  rw [e1] at h ⊢
  obtain ⟨e2, _⟩ := labs_2 (loc := loc) l.length l lb1 ((labs 1 loc lb1 l).2.1 ++ m) (Nat.le_refl _) z
  have e0 : lnG 0 ((labs 1 loc lb1 l).2.1 ++ m) loc l = ((tlG 0 ((labs 1 loc lb1 l).2.1 ++ m) loc (labs 1 loc lb1 l).2.2).1, (labs 1 loc lb1 l).2.1 ++ m, (tlG 0 ((labs 1 loc lb1 l).2.1 ++ m) loc (labs 1 loc lb1 l).2.2).2) := by
    unfold lnG
    rw [e2, if_pos rfl]
  show (∀ t r, (labs 0 loc ((labs 1 loc lb1 l).2.1 ++ m) l).2.2 = t :: r → isW t → loc < 32768) ∧ ((lnG 0 ((labs 1 loc lb1 l).2.1 ++ m) loc l).1 = 0 → (lnG 0 ((labs 1 loc lb1 l).2.1 ++ m) loc l).2.1 = (labs 1 loc lb1 l).2.1 ++ m ∧ (lnG 0 ((labs 1 loc lb1 l).2.1 ++ m) loc l).2.2.1 = (tlG 1 (labs 1 loc lb1 l).2.1 loc (labs 1 loc lb1 l).2.2).2.1)
  rw [e0, e2]
  have h' : (tlG 1 (labs 1 loc lb1 l).2.1 loc (labs 1 loc lb1 l).2.2).1 = 0 := h
  generalize (labs 1 loc lb1 l).2.2 = ts at *
  generalize (labs 1 loc lb1 l).2.1 = lbX at *
  refine ⟨fun t r e w => ?_, fun k => ⟨rfl, ?_⟩⟩
  · have e' : ts = t :: r := e
    subst e'
    rw [tlG_W w, if_pos rfl] at h'
    by_cases c : loc < 32768
    · exact c
    · rw [if_neg c] at h'; exact absurd (show (7 : Nat) = 0 from h') (by omega)
  · cases ts with
    | nil => rfl
    | cons t r =>
      rcases isW_or t with im | w | n
      · have m0 : (mvG lbX loc (stN t.2.2) r).1 = 0 := by rw [tlG_M im] at h'; exact h'
        show (tlG 0 (lbX ++ m) loc (t :: r)).2.1 = _
        rw [tlG_M im, tlG_M im, mvG_ap m im.2 m0]
      · show (tlG 0 (lbX ++ m) loc (t :: r)).2.1 = _
        rw [tlG_W w, tlG_W w, if_neg (by omega), if_pos rfl]
      · show (tlG 0 (lbX ++ m) loc (t :: r)).2.1 = _
        rw [tlG_N n, tlG_N n]
theorem ln_ws {p : Nat} {lb : Lb} {loc : Nat} {l : List Tk} : 2 * (lnG p lb loc l).2.2.2.length ≤ l.length + 1 := by
  cases l with
  | nil => exact Nat.zero_le _
  | cons t0 r0 =>
    have one : ∀ lbX ts, (tlG p lbX loc ts).2.2.length ≤ 1 := by
      intro lbX ts
      cases ts with
      | nil => exact Nat.zero_le _
      | cons t r =>
        rcases isW_or t with im | w | n
        · rw [tlG_M im]; exact Nat.zero_le _
        · rw [tlG_W w]
          by_cases c : p = 1
          · rw [if_pos c]; exact Nat.zero_le _
          · rw [if_neg c]; exact Nat.le_refl _
        · rw [tlG_N n]; exact Nat.zero_le _
    rw [List.length_cons]
    unfold lnG
    by_cases z : (labs p loc lb (t0 :: r0)).1 = 0
    · rw [if_pos z]
      have := one (labs p loc lb (t0 :: r0)).2.1 (labs p loc lb (t0 :: r0)).2.2
      show 2 * (tlG p (labs p loc lb (t0 :: r0)).2.1 loc (labs p loc lb (t0 :: r0)).2.2).2.2.length ≤ _
      omega
    · rw [if_neg z]; exact Nat.zero_le _
theorem ln_w1 {lb : Lb} {loc : Nat} {l : List Tk} (h : (lnG 1 lb loc l).1 = 0) : (lnG 1 lb loc l).2.2.2 = [] := by
  unfold lnG at h ⊢
  by_cases z : (labs 1 loc lb l).1 = 0
  · rw [if_pos z]
    show (tlG 1 (labs 1 loc lb l).2.1 loc (labs 1 loc lb l).2.2).2.2 = []
    cases (labs 1 loc lb l).2.2 with
    | nil => rfl
    | cons t r =>
      rcases isW_or t with im | w | n
      · rw [tlG_M im]
      · rw [tlG_W w, if_pos rfl]
      · rw [tlG_N n]
  · rw [if_neg z]
/-- a text: its fault, the fault's line, labels, the place, words -/
def txG (p : Nat) : Lb → Nat → Ws → Nat → List (List Tk) → Nat × Nat × Lb × Nat × Ws
  | lb, loc, ws, k, [] => (0, k, lb, loc, ws)
  | lb, loc, ws, k, l :: r => if (lnG p lb loc l).1 = 0 then txG p (lnG p lb loc l).2.1 (lnG p lb loc l).2.2.1 (ws ++ (lnG p lb loc l).2.2.2) (k + 1) r else ((lnG p lb loc l).1, k + 1, lb, loc, ws)
theorem txG_c (p : Nat) (lb : Lb) (loc : Nat) (ws : Ws) (k : Nat) (l : List Tk) (r : List (List Tk)) : txG p lb loc ws k (l :: r) = if (lnG p lb loc l).1 = 0 then txG p (lnG p lb loc l).2.1 (lnG p lb loc l).2.2.1 (ws ++ (lnG p lb loc l).2.2.2) (k + 1) r else ((lnG p lb loc l).1, k + 1, lb, loc, ws) := rfl
/-- the first pass is clean from here on -/
def Cln (lbF : Lb) : Lb → Nat → List (List Tk) → Prop
  | lb, _, [] => lb = lbF
  | lb, loc, l :: r => (lnG 1 lb loc l).1 = 0 ∧ Cln lbF (lnG 1 lb loc l).2.1 (lnG 1 lb loc l).2.2.1 r
theorem cln_of {ls : List (List Tk)} : ∀ (lb : Lb) (loc : Nat) (ws : Ws) (k : Nat), (txG 1 lb loc ws k ls).1 = 0 → Cln (txG 1 lb loc ws k ls).2.2.1 lb loc ls := by
  induction ls with
  | nil => intro lb loc ws k _; rfl
  | cons l r ih =>
    intro lb loc ws k h
    rw [txG_c] at h ⊢
    by_cases z : (lnG 1 lb loc l).1 = 0
    · rw [if_pos z] at h ⊢
      exact ⟨z, ih _ _ _ _ h⟩
    · rw [if_neg z] at h; exact absurd h z
theorem cln_ext {lbF : Lb} {ls : List (List Tk)} : ∀ (lb : Lb) (loc : Nat), Cln lbF lb loc ls → ∃ m, lbF = lb ++ m := by
  induction ls with
  | nil => intro lb loc h; exact ⟨[], by rw [List.append_nil]; exact h.symm⟩
  | cons l r ih =>
    intro lb loc h
    obtain ⟨z, h2⟩ := h
    obtain ⟨m1, e1⟩ := ln_ext z
    obtain ⟨m2, e2⟩ := ih _ _ h2
    exact ⟨m1 ++ m2, by rw [e2, e1, List.append_assoc]⟩
theorem tx_w1 {ls : List (List Tk)} : ∀ (lb : Lb) (loc : Nat) (ws : Ws) (k : Nat), (txG 1 lb loc ws k ls).1 = 0 → (txG 1 lb loc ws k ls).2.2.2.2 = ws := by
  induction ls with
  | nil => intro lb loc ws k _; rfl
  | cons l r ih =>
    intro lb loc ws k h
    rw [txG_c] at h ⊢
    by_cases z : (lnG 1 lb loc l).1 = 0
    · rw [if_pos z] at h ⊢
      have := ih _ _ _ _ h
      rw [this, ln_w1 z, List.append_nil]
    · rw [if_neg z] at h; exact absurd h z
/-- what a line needs of what goes before it -/
def Pre (p : Nat) (lb : Lb) (loc : Nat) (ls : List (List Tk)) : Prop := p = 0 → ∃ lb1, Cln lb lb1 loc ls
theorem Pre.hw {p : Nat} {lb : Lb} {loc : Nat} {l : List Tk} {r : List (List Tk)} (h : Pre p lb loc (l :: r)) : p = 0 → ∀ t r', (labs p loc lb l).2.2 = t :: r' → isW t → loc < 32768 := by
  intro p0
  subst p0
  obtain ⟨lb1, z, hc⟩ := h rfl
  obtain ⟨m, e⟩ := cln_ext _ _ hc
  have := (ln_2 (m := m) z).1
  rw [← e] at this
  exact this
theorem Pre.nx {p : Nat} {lb : Lb} {loc : Nat} {l : List Tk} {r : List (List Tk)} (hp : p ≤ 1) (hl : loc ≤ 32768) (h : Pre p lb loc (l :: r)) (z : (lnG p lb loc l).1 = 0) : Pre p (lnG p lb loc l).2.1 (lnG p lb loc l).2.2.1 r ∧ (lnG p lb loc l).2.2.1 ≤ 32768 := by
  by_cases p0 : p = 0
  · subst p0
    obtain ⟨lb1, z1, hc⟩ := h rfl
    obtain ⟨m, e⟩ := cln_ext _ _ hc
    have l2 := (ln_2 (m := m) z1).2
    rw [← e] at l2
    obtain ⟨a, b⟩ := l2 z
    rw [a, b]
    exact ⟨fun _ => ⟨_, hc⟩, ln_le hl z1⟩
  · have : p = 1 := by omega
    subst this
    exact ⟨fun k => absurd k (by omega), ln_le hl z⟩
