/-! the pure side: words and places keep their bounds -/
theorem stS_le (cs : List Nat) : ∀ n i, stS cs n i ≤ i + n := by
  intro n
  induction n with
  | zero => intro i; exact Nat.le_refl _
  | succ n ih =>
    intro i
    show (if fbN i cs = 4294967295 then stS cs n (i + 1) else i) ≤ _
    by_cases c : fbN i cs = 4294967295
    · rw [if_pos c]; have := ih (i + 1); omega
    · rw [if_neg c]; omega
theorem stS_f (cs : List Nat) : ∀ n i, stS cs n i < i + n → fbN (stS cs n i) cs ≠ 4294967295 := by
  intro n
  induction n with
  | zero => intro i h; exact absurd (show i < i + 0 from h) (by omega)
  | succ n ih =>
    intro i
    show (if fbN i cs = 4294967295 then stS cs n (i + 1) else i) < _ → fbN (if fbN i cs = 4294967295 then stS cs n (i + 1) else i) cs ≠ _
    by_cases c : fbN i cs = 4294967295
    · rw [if_pos c]
      intro h
      exact ih (i + 1) (by omega)
    · rw [if_neg c]; exact fun _ => c
theorem wd_lt {f b ind loc : Nat} {vs : List Nat} (hf : f ≤ 10) (hb : bOK f b) (h10 : f ≠ 10) (hi : ind ≤ 1) (h0 : (wd f b ind loc vs).1 = 0) : (wd f b ind loc vs).2 < 65536 := by
  obtain ⟨b2, b3, b4, b5, b6, b9, _, bl⟩ := hb
  rcases f11 hf with z | z | z | z | z | z | z | z | z | z | z <;> subst z
  · exact bl
  · exact bl
  · have ew : wd 2 b ind loc vs = ((adW ind loc (vs.getD 0 0) (vs.length - 1) (vs.getD 1 0)).1, b + (adW ind loc (vs.getD 0 0) (vs.length - 1) (vs.getD 1 0)).2) := rfl
    rw [ew]
    have al := adW_lt (loc := loc) (e := vs.getD 0 0) (hm := vs.length - 1) (m := vs.getD 1 0) hi
    have := b2 rfl
    show b + _ < 65536
    omega
  · have ew : wd 3 b ind loc vs = if 3 < vs.getD 0 0 then (5, 0) else ((adW ind loc (vs.getD 1 0) (vs.length - 2) (vs.getD 2 0)).1, b + 2048 * vs.getD 0 0 + (adW ind loc (vs.getD 1 0) (vs.length - 2) (vs.getD 2 0)).2) := rfl
    rw [ew]
    have al := adW_lt (loc := loc) (e := vs.getD 1 0) (hm := vs.length - 2) (m := vs.getD 2 0) hi
    have := b3 rfl
    by_cases c : 3 < vs.getD 0 0
    · rw [if_pos c]; show 0 < 65536; omega
    · rw [if_neg c]
      show b + 2048 * vs.getD 0 0 + _ < 65536
      omega
  · have ew : wd 4 b ind loc vs = if 3 < vs.getD 0 0 ∨ 3 < vs.getD 1 0 ∨ (2 < vs.length ∧ 7 < vs.getD 2 0) then (5, 0) else (0, b + 8192 * vs.getD 0 0 + 2048 * vs.getD 1 0 + (if 2 < vs.length then vs.getD 2 0 else 0)) := rfl
    rw [ew]
    have := b4 rfl
    by_cases c : 3 < vs.getD 0 0 ∨ 3 < vs.getD 1 0 ∨ (2 < vs.length ∧ 7 < vs.getD 2 0)
    · rw [if_pos c]; show 0 < 65536; omega
    · rw [if_neg c]
      show b + 8192 * vs.getD 0 0 + 2048 * vs.getD 1 0 + (if 2 < vs.length then vs.getD 2 0 else 0) < 65536
      by_cases d : 2 < vs.length
      · rw [if_pos d]; omega
      · rw [if_neg d]; omega
  · have ew : wd 5 b ind loc vs = if 63 < vs.getD 0 0 then (5, 0) else (0, b + vs.getD 0 0) := rfl
    rw [ew]
    have := b5 (Or.inl rfl)
    by_cases c : 63 < vs.getD 0 0
    · rw [if_pos c]; show 0 < 65536; omega
    · rw [if_neg c]; show b + vs.getD 0 0 < 65536; omega
  · have ew : wd 6 b ind loc vs = if 3 < vs.getD 0 0 ∨ 63 < vs.getD 1 0 then (5, 0) else (0, b + 2048 * vs.getD 0 0 + vs.getD 1 0) := rfl
    rw [ew]
    have := b6 rfl
    by_cases c : 3 < vs.getD 0 0 ∨ 63 < vs.getD 1 0
    · rw [if_pos c]; show 0 < 65536; omega
    · rw [if_neg c]; show b + 2048 * vs.getD 0 0 + vs.getD 1 0 < 65536; omega
  · have ew : wd 7 b ind loc vs = if 63 < vs.getD 0 0 then (5, 0) else (0, b + vs.getD 0 0) := rfl
    rw [ew]
    have := b5 (Or.inr rfl)
    by_cases c : 63 < vs.getD 0 0
    · rw [if_pos c]; show 0 < 65536; omega
    · rw [if_neg c]; show b + vs.getD 0 0 < 65536; omega
  · exact bl
  · have ew : wd 9 b ind loc vs = if 3 < vs.getD 0 0 then (5, 0) else (0, b + 2048 * vs.getD 0 0) := rfl
    rw [ew]
    have := b9 rfl
    by_cases c : 3 < vs.getD 0 0
    · rw [if_pos c]; show 0 < 65536; omega
    · rw [if_neg c]; show b + 2048 * vs.getD 0 0 < 65536; omega
  · exact absurd rfl h10
theorem wdL_lt {lb : Lb} {loc : Nat} {t : Tk} {r : List Tk} (hw : isW t) (h0 : (wdL lb loc t r).1 = 0) : (wdL lb loc t r).2 < 65536 := by
  unfold wdL at h0 ⊢
  by_cases c : t.1 = 2 ∧ stN t.2.2 ≠ 34
  · rw [if_pos c] at h0 ⊢
    have le : stN t.2.2 ≤ 0 + 34 := stS_le _ _ _
    have ge : 2 ≤ stN t.2.2 := by
      by_cases k : stN t.2.2 < 2
      · exact absurd ⟨c.1, k⟩ hw.1
      · omega
    have fb : fbN (stN t.2.2) t.2.2 ≠ 4294967295 := stS_f t.2.2 34 0 (by show stN t.2.2 < 0 + 34; omega)
    generalize stN t.2.2 = e at *
    have hh : (hsh (fmN e) r).1 = 0 ∨ ((hsh (fmN e) r).1 = 8 ∧ fmN e = 4) := by
      cases r with
      | nil => exact Or.inl rfl
      | cons s r' =>
        by_cases c : fmN e = 4 ∧ s.1 = 35
        · rw [hsh_1 c]; exact Or.inr ⟨rfl, c.1⟩
        · rw [hsh_0 (fun _ _ e' => by cases e'; exact c)]; exact Or.inl rfl
    obtain ⟨_, b2⟩ := bOK_e (by omega) ge fb hh
    unfold stG stB at h0 ⊢
    by_cases z : (rd lb loc (fmN e) (hsh (fmN e) r).2).1 = 0
    · rw [if_pos z] at h0 ⊢
      exact wd_lt (fm_le e (by omega)) b2 (bt_5 e (by omega) ge).1 (rd_len z).2.2 h0
    · rw [if_neg z] at h0; exact absurd h0 z
  · rw [if_neg c] at h0 ⊢
    have er : rd lb loc 10 (t :: r) = if (exE lb loc (t :: r)).1 = 0 then fiO 1 (exE lb loc (t :: r)).2.2 0 [vN (exE lb loc (t :: r)).2.1] else ((exE lb loc (t :: r)).1, 0, []) := by
      unfold rd
      show rdO lb loc (adN 10) (leN 10) (0 + 1) 0 (t :: r) 0 [] = _
      rw [rdO_n _ _ _ _ _ _ _ _ _ (by decide), rdM_0]
      rfl
    unfold stB at h0 ⊢
    rw [er] at h0 ⊢
    by_cases z : (exE lb loc (t :: r)).1 = 0
    · rw [if_pos z] at h0 ⊢
      unfold fiO at h0 ⊢
      by_cases y : [vN (exE lb loc (t :: r)).2.1].length < 1 ∨ (exE lb loc (t :: r)).2.2 ≠ []
      · rw [if_pos y, if_neg (show ¬ (2 : Nat) = 0 by omega)]; show 0 < 65536; omega
      · rw [if_neg y, if_pos rfl]
        exact (vN_e _).2
    · rw [if_neg z, if_neg (show ¬ (exE lb loc (t :: r)).1 = 0 from z)]
      show 0 < 65536
      omega
def WsOK (ws : Ws) : Prop := ∀ w ∈ ws, w.1 < 32768 ∧ w.2 < 65536
theorem WsOK.at {ws : Ws} (h : WsOK ws) {i : Nat} (hi : i < ws.length) : (ws.getD i (0, 0)).1 < 32768 ∧ (ws.getD i (0, 0)).2 < 65536 := by
  have : ws.getD i (0, 0) = ws[i] := by simp [List.getD, List.getElem?_eq_getElem hi]
  rw [this]
  exact h _ (List.getElem_mem hi)
theorem ln_w0 {lb : Lb} {loc : Nat} {l : List Tk} (h : (lnG 0 lb loc l).1 = 0) (hw : ∀ t r, (labs 0 loc lb l).2.2 = t :: r → isW t → loc < 32768) : WsOK (lnG 0 lb loc l).2.2.2 := by
  unfold lnG at h ⊢
  by_cases z : (labs 0 loc lb l).1 = 0
  · rw [if_pos z] at h ⊢
    generalize (labs 0 loc lb l).2.2 = ts at *
    have h' : (tlG 0 (labs 0 loc lb l).2.1 loc ts).1 = 0 := h
    show WsOK (tlG 0 (labs 0 loc lb l).2.1 loc ts).2.2
    generalize (labs 0 loc lb l).2.1 = lbX at *
    cases ts with
    | nil => intro w hw'; cases hw'
    | cons t r =>
      rcases isW_or t with im | w | n
      · rw [tlG_M im]; intro w hw'; cases hw'
      · rw [tlG_W w, if_neg (by omega)] at h' ⊢
        intro x hx
        rcases List.mem_singleton.mp hx with rfl
        exact ⟨hw t r rfl w, wdL_lt w h'⟩
      · rw [tlG_N n]; intro w hw'; cases hw'
  · rw [if_neg z]; intro w hw'; cases hw'
theorem txG_ok {ls : List (List Tk)} : ∀ (lb : Lb) (loc : Nat) (ws : Ws) (k : Nat), loc ≤ 32768 → Pre 0 lb loc ls → WsOK ws → (txG 0 lb loc ws k ls).1 = 0 → WsOK (txG 0 lb loc ws k ls).2.2.2.2 := by
  induction ls with
  | nil => intro lb loc ws k _ _ h _; exact h
  | cons l r ih =>
    intro lb loc ws k hl hP h h0
    rw [txG_c] at h0 ⊢
    by_cases z : (lnG 0 lb loc l).1 = 0
    · rw [if_pos z] at h0 ⊢
      obtain ⟨pn, ln⟩ := Pre.nx (by omega) hl hP z
      refine ih _ _ _ _ ln pn ?_ h0
      intro w hw
      rcases List.mem_append.mp hw with q | q
      · exact h w q
      · exact ln_w0 z (fun t r' e iw => hP.hw rfl t r' e iw) w q
    · rw [if_neg z] at h0; exact absurd h0 z
/-- words stored in a memory -/
def putW (M : Nat → Int32) : Ws → Nat → Int32
  | [] => M
  | w :: r => putW (upd M w.1 (nI w.2)) r
theorem putW_W {ws : Ws} : ∀ {M : Nat → Int32}, (∀ j, W16 (M j)) → WsOK ws → ∀ j, W16 (putW M ws j) := by
  induction ws with
  | nil => intro M h _; exact h
  | cons w r ih =>
    intro M h ho
    exact ih (upd_W h w.1 w.2 (ho w List.mem_cons_self).2) (fun x hx => ho x (List.mem_cons_of_mem _ hx))
theorem putW_d {ws : Ws} {i : Nat} {M : Nat → Int32} (hi : i < ws.length) : putW M (ws.drop i) = putW (upd M (ws.getD i (0, 0)).1 (nI (ws.getD i (0, 0)).2)) (ws.drop (i + 1)) := by
  rw [List.drop_eq_getElem_cons hi]
  have : ws.getD i (0, 0) = ws[i] := by simp [List.getD, List.getElem?_eq_getElem hi]
  rw [this]
  rfl
