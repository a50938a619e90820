/-! the pure side: a line behind its labels, the reference -/
def MdR (τ : SS) (ws : Ws) : Prop := τ.1 18 = nI ws.length ∧ ∀ i, i < ws.length → τ.2.1 14 i = nI (ws.getD i (0, 0)).1 ∧ τ.2.1 15 i = nI (ws.getD i (0, 0)).2
theorem MdR.h {v w : SS} {ws : Ws} (h : MdR v ws) (f : FrH v w) : MdR w ws := by
  obtain ⟨a, b⟩ := h
  refine ⟨by rw [f.1 18 (by omega) (by omega) (by omega) (by omega) (by omega)]; exact a, ?_⟩
  rw [f.2.1 14 (by omega) (by omega) (by omega), f.2.1 15 (by omega) (by omega) (by omega)]; exact b
/-- at the end of a line -/
def LnR (τ v : SS) (lb : Lb) (loc : Nat) (ws : Ws) : Prop := FrG τ v ∧ v.1 13 = nI 0 ∧ LbR v lb ∧ v.1 19 = nI loc ∧ MdR v ws
theorem LnR.up {τ v w : SS} {lb : Lb} {loc : Nat} {ws : Ws} (g : FrG τ v) (h : LnR v w lb loc ws) : LnR τ w lb loc ws := ⟨g.trans h.1, h.2⟩
theorem LbR.q {v w : SS} {lb : Lb} (h : LbR v lb) (h16 : w.1 16 = v.1 16) (h11 : w.2.1 11 = v.2.1 11) (h10 : w.2.2.2 10 = v.2.2.2 10) : LbR w lb := by
  obtain ⟨l1, l2, l3⟩ := h
  exact ⟨l1, by rw [h16]; exact l2, by rw [h10, h11]; exact l3⟩
section
variable {v : SS} {T : Nat → Nat} {len e loc : Nat} {lb : Lb} {ts : List Tk} {ws : Ws} {post : SS → Prop}
/-- what is behind a kept word -/
theorem kp_ln {w : SS} {x : Nat} (hv : LivR v T len e lb loc) (hM : MdR v ws) (hw : ws.length < 6000) (fw : FrQ v w) (h13 : w.1 13 = nI 0) : LnR v (kpt w ws.length loc (nI x)) lb (loc + 1) (ws ++ [(loc, x)]) := by
  obtain ⟨m1, m2⟩ := hM
  have fg : FrG v (kpt w ws.length loc (nI x)) := (((fw.h.g.sA (by omega) _ _).sA (by omega) _ _).sI (by omega) _).sI (by omega) _
  refine ⟨fg, h13, (hv.frq fw).2.2.2.1.q rfl rfl rfl, rfl, ?_, fun i hi => ?_⟩
  · rw [List.length_append]; rfl
  · rw [getD_ws hi]
    rw [List.length_append, List.length_singleton] at hi
    show (sA (sA w 14 ws.length (nI loc)) 15 ws.length (nI x)).2.1 14 i = _ ∧ (sA (sA w 14 ws.length (nI loc)) 15 ws.length (nI x)).2.1 15 i = _
    have r14 : (sA (sA w 14 ws.length (nI loc)) 15 ws.length (nI x)).2.1 14 i = if i = ws.length then nI loc else v.2.1 14 i := by
      rw [sA_2, if_neg (by decide), sA_2, if_pos rfl, u_at, fw.2.1 14 (by omega) (by omega)]
    have r15 : (sA (sA w 14 ws.length (nI loc)) 15 ws.length (nI x)).2.1 15 i = if i = ws.length then nI x else v.2.1 15 i := by
      rw [sA_2, if_pos rfl, u_at, sA_2, if_neg (show ¬ (15 : Nat) = 14 by decide), fw.2.1 15 (by omega) (by omega)]
    rw [r14, r15]
    by_cases c : i = ws.length
    · rw [if_pos c, if_pos c, if_pos c]; exact ⟨rfl, rfl⟩
    · rw [if_neg c, if_neg c, if_neg c]; exact m2 i (by omega)
theorem kp_K {S : Nat × Nat} (hv : LivR v T len e lb loc) (hM : MdR v ws) (hw : ws.length < 6000) (h1 : S.1 = 0 → ∀ w, LnR v w lb (loc + 1) (ws ++ [(loc, S.2)]) → post w) (h2 : S.1 ≠ 0 → ∀ w, FltL v S.1 w → post w) : KP v loc ws.length post S :=
  ⟨hM.1, hw, fun z w fw w13 => h1 z _ (kp_ln hv hM hw fw w13), fun z w n hq => h2 z w hq.l⟩
theorem r_on (hl : loc ≤ 32768) (h13 : v.1 13 = nI 0) (hv : LivR v T len e lb loc) (hM : MdR v ws) (h1 : loc < 32768 → ∀ w, LnR v w lb (loc + 1) ws → post w) (h2 : ¬ loc < 32768 → ∀ w, FltL v 7 w → post w) : f_R_goOn post v := by
  have h19 := hv.2.2.2.2
  refine b_c (fun z => ?_) (fun z => ?_)
  · rw [h19, q_lit, q_lt (by omega) (by omega)] at z
    refine h1 z _ ⟨(FrG.refl v).sI (by omega) _, h13, hv.2.2.2.1.q rfl rfl rfl, ?_, hM⟩
    show v.1 19 + nI 1 = nI (loc + 1)
    rw [h19, q_add]
  · rw [h19, q_lit, q_lt (by omega) (by omega)] at z
    refine r_stop h13 (h2 z _ ?_)
    obtain ⟨a, b, c, d⟩ := fltL (f := 7) (FrG.refl v) (by omega)
    exact ⟨a.sI (by omega) _, b, c, d⟩
theorem QL.start (hA : AtR T e ts v) (hv : LivR v T len e lb loc) (h24 : v.1 24 = nI 0) (h25 : v.1 25 = nI 0) : QL v v T len e lb loc ts [] 0 := ⟨FrQ.refl v, hA, hv, ⟨h24, fun j hj => absurd hj (by simp)⟩, h25⟩
/-- .LOC, .BLK -/
theorem rd_01 {f : Nat} (hf : f < 2) : rd lb loc f ts = if (exE lb loc ts).1 = 0 then fiO 1 (exE lb loc ts).2.2 0 [vN (exE lb loc ts).2.1] else ((exE lb loc ts).1, 0, []) := by
  rcases (by omega : f = 0 ∨ f = 1) with z | z <;> subst z <;> unfold rd
  · show rdO lb loc (adN 0) (leN 0) (0 + 1) 0 ts 0 [] = _
    rw [rdO_n _ _ _ _ _ _ _ _ _ (by decide), rdM_0]
    rfl
  · show rdO lb loc (adN 1) (leN 1) (0 + 1) 0 ts 0 [] = _
    rw [rdO_n _ _ _ _ _ _ _ _ _ (by decide), rdM_0]
    rfl
theorem r_m80 {w : SS} {x y : Nat} (fw : FrQ v w) (w13 : w.1 13 = nI 0) (hv : LivR v T len e lb loc) (hM : MdR v ws) (hy : w.1 13 = nI 0) (h1 : ∀ u, LnR v u lb y ws → post u) : post (sI w 19 (nI y)) :=
  h1 _ ⟨fw.h.g.sI (by omega) _, w13, (hv.frq fw).2.2.2.1.q rfl rfl rfl, rfl, by
    obtain ⟨a, b⟩ := hM.h fw.h
    exact ⟨a, b⟩⟩
theorem r_loc (hl : loc ≤ 32768) (hA : AtR T e ts v) (hv : LivR v T len e lb loc) (hM : MdR v ws) (h24 : v.1 24 = nI 0) (h25 : v.1 25 = nI 0)
    (h1 : (mvG lb loc 0 ts).1 = 0 → ∀ w, LnR v w lb (mvG lb loc 0 ts).2 ws → post w) (h2 : ∀ f, f = (mvG lb loc 0 ts).1 → ∀ w, FltL v f w → post w) : f_R_bounded (fun r_11 σ_10 => f_R_moves_42 post σ_10 1 r_11) v 32767 := by
  have er := rd_01 (lb := lb) (loc := loc) (ts := ts) (f := 0) (by omega)
  unfold mvG at h1 h2
  rw [er] at h1 h2
  refine r_bnd (most := 32767) (by omega) (QL.start hA hv h24 h25) (by simp) (by omega) (fun z w hw => ?_) (fun f ef q w hw => ?_)
  · rw [if_pos z] at h1 h2
    refine r_fin hw (by omega) (by simp) (fun y => b_t hw.2.1.1 (b_f (by decide) (b_f (by decide) ?_))) (fun f ef w2 hw2 => b_f hw2.ne ?_)
    · unfold finF at y
      by_cases c : (exE lb loc ts).2.2 ≠ []
      · rw [if_pos c] at y; omega
      · rw [if_neg c] at y
        unfold fiO at h1
        rw [if_neg (show ¬ ([vN (exE lb loc ts).2.1].length < 1 ∨ (exE lb loc ts).2.2 ≠ []) by rintro (k | k); exact absurd k (by simp); exact c k)] at h1
        show post (sI w 19 (nI (vN (exE lb loc ts).2.1)))
        refine r_m80 (x := 0) hw.1 hw.2.1.1 hv hM hw.2.1.1 (fun u hu => ?_)
        rw [if_pos rfl, if_pos rfl] at h1
        have nv : ¬ 32767 < vN (exE lb loc ts).2.1 := by
          intro k
          have y : (if vio [(vN (exE lb loc ts).2.1, 32767)] = 1 then 5 else if 0 = 1 then 6 else 0) = 0 := y
          rw [vio1, if_pos k, if_pos rfl] at y
          omega
        rw [show [vN (exE lb loc ts).2.1].getD 0 0 = vN (exE lb loc ts).2.1 from rfl, if_neg nv] at h1
        exact h1 rfl u hu
    · refine h2 f ?_ w2 hw2.l
      rw [ef]
      unfold finF fiO
      by_cases c : (exE lb loc ts).2.2 ≠ []
      · rw [if_pos c, if_pos (Or.inr c), if_neg (show ¬ (2 : Nat) = 0 by omega)]
      · rw [if_neg c, if_neg (show ¬ ([vN (exE lb loc ts).2.1].length < 1 ∨ (exE lb loc ts).2.2 ≠ []) by rintro (k | k); exact absurd k (by simp); exact c k), if_pos rfl, if_pos rfl, show [vN (exE lb loc ts).2.1].getD 0 0 = vN (exE lb loc ts).2.1 from rfl]
        show (if vio [(vN (exE lb loc ts).2.1, 32767)] = 1 then 5 else if 0 = 1 then 6 else 0) = _
        rw [vio1]
        by_cases k : 32767 < vN (exE lb loc ts).2.1
        · rw [if_pos k, if_pos rfl, if_pos k]
        · rw [if_neg k, if_neg (by omega), if_neg k, if_neg (by omega)]
  · have gp := hw.2.2.2.1
    rw [if_neg (show ¬ (exE lb loc ts).1 = 0 by omega), if_neg (show ¬ (exE lb loc ts).1 = 0 by omega)] at h2
    exact r_finF hw (b_f hw.ne (h2 f ef w hw.l))
theorem r_blk (hl : loc ≤ 32768) (hA : AtR T e ts v) (hv : LivR v T len e lb loc) (hM : MdR v ws) (h24 : v.1 24 = nI 0) (h25 : v.1 25 = nI 0)
    (h1 : (mvG lb loc 1 ts).1 = 0 → ∀ w, LnR v w lb (mvG lb loc 1 ts).2 ws → post w) (h2 : ∀ f, f = (mvG lb loc 1 ts).1 → ∀ w, FltL v f w → post w) : f_R_expression (fun r_9 σ_8 => f_R_moves_42 post σ_8 0 r_9) v := by
  have er := rd_01 (lb := lb) (loc := loc) (ts := ts) (f := 1) (by omega)
  unfold mvG at h1 h2
  rw [er] at h1 h2
  obtain ⟨v1, v2⟩ := vN_e (exE lb loc ts).2.1
  refine r_expr (by omega) hA hv (fun z w fw aw => ?_) (fun f ef r w hr hw => ?_)
  · rw [if_pos z] at h1 h2
    rw [v1]
    have hw : QL v w T len e lb loc (exE lb loc ts).2.2 [] 0 := ⟨fw.frq, aw, hv.fr fw, ⟨by rw [fw.1 24 (by omega) (by omega) (by omega) (by omega) (by omega)]; exact h24, fun j hj => absurd hj (by simp)⟩, by rw [fw.1 25 (by omega) (by omega) (by omega) (by omega) (by omega)]; exact h25⟩
    have w19 := hw.2.2.1.2.2.2.2
    refine r_fin hw (by omega) (by simp) (fun y => b_t aw.1 (b_t rfl ?_)) (fun f ef w2 hw2 => b_f hw2.ne ?_)
    · unfold finF at y
      by_cases c : (exE lb loc ts).2.2 ≠ []
      · rw [if_pos c] at y; omega
      · unfold fiO at h1 h2
        have nn : ¬ ([vN (exE lb loc ts).2.1].length < 1 ∨ (exE lb loc ts).2.2 ≠ []) := by rintro (k | k); exact absurd k (by simp); exact c k
        rw [if_neg nn, if_pos rfl, if_neg (show ¬ (1 : Nat) = 0 by omega), show [vN (exE lb loc ts).2.1].getD 0 0 = vN (exE lb loc ts).2.1 from rfl] at h1 h2
        rw [w19, q_add]
        refine b_c (fun k => b_t rfl ?_) (fun k => ?_)
        · rw [q_lit, q_le (by omega) (by omega)] at k
          show post (sI w 19 (w.1 19 + nI (vN (exE lb loc ts).2.1)))
          rw [w19, q_add]
          refine r_m80 (x := 0) hw.1 aw.1 hv hM aw.1 (fun u hu => ?_)
          rw [if_neg (by omega)] at h1
          exact h1 rfl u hu
        · rw [q_lit, q_le (by omega) (by omega)] at k
          rw [if_pos (by omega)] at h2
          exact r_stop aw.1 (h2 7 rfl _ (fltL hw.1.h.g (by omega)))
    · refine h2 f ?_ w2 hw2.l
      rw [ef]
      unfold finF fiO
      by_cases c : (exE lb loc ts).2.2 ≠ []
      · rw [if_pos c, if_pos (Or.inr c), if_neg (show ¬ (2 : Nat) = 0 by omega)]
      · have p := hw2.2.2.2.1
        rw [ef] at p
        unfold finF at p
        rw [if_neg c] at p
        exact absurd p (by simp [vio])
  · have gp := hw.2.1
    rw [if_neg (show ¬ (exE lb loc ts).1 = 0 by omega), if_neg (show ¬ (exE lb loc ts).1 = 0 by omega)] at h2
    obtain ⟨⟨f1, fl2, fl3⟩, fl4, fl5⟩ := id hw
    have hq : QF v w f 0 := ⟨f1.frq, fl2, fl3, fl4, fl5, by rw [f1.1 24 (by omega) (by omega) (by omega) (by omega) (by omega)]; exact h24⟩
    exact r_finF hq (b_f hw.ne (h2 f ef w hw.l))
/-- a line that begins with a name -/
theorem r_beg {p q : Nat} {t : Tk} {r : List Tk} (hp : p ≤ 1) (hl : loc ≤ 32768) (ht : t.1 = 2) (hn : isN t.2.2) (hA : AtR T e r v) (hq : LexL T e q r) (hv : LivR v T len e lb loc) (hM : MdR v ws) (hw : ws.length < 6000)
    (h1 : (tlG p lb loc (t :: r)).1 = 0 → ∀ w, LnR v w lb (tlG p lb loc (t :: r)).2.1 (ws ++ (tlG p lb loc (t :: r)).2.2) → post w) (h2 : ∀ f, f = (tlG p lb loc (t :: r)).1 → ∀ w, FltL v f w → post w) : f_R_begin post v (jI (nameR 0 t.2.2)) (nI q) (nI p) := by
  have cl := stN_cls hn
  obtain ⟨s0, s1, s2, s4⟩ := sr_0 _ cl.1
  refine cl.2.2.2 v _ ?_
  have h13 : (sS v (srN (stN t.2.2)) (bsN (stN t.2.2) t.2.2)).1 13 = nI 0 := hA.1
  have fr : FrH v (sS v (srN (stN t.2.2)) (bsN (stN t.2.2) t.2.2)) := ((FrH.refl v).sI (by omega) _).sI (by omega) _
  have lv : LivR (sS v (srN (stN t.2.2)) (bsN (stN t.2.2) t.2.2)) T len e lb loc := hv.h fr rfl rfl rfl
  have at1 : AtR T e r (sS v (srN (stN t.2.2)) (bsN (stN t.2.2) t.2.2)) := hA.fr rfl rfl rfl rfl rfl
  have e26 : (sS v (srN (stN t.2.2)) (bsN (stN t.2.2) t.2.2)).1 26 = nI (srN (stN t.2.2)) := rfl
  have e27 : (sS v (srN (stN t.2.2)) (bsN (stN t.2.2) t.2.2)).1 27 = nI (bsN (stN t.2.2) t.2.2) := rfl
  generalize sS v (srN (stN t.2.2)) (bsN (stN t.2.2) t.2.2) = u at *
  have fr0 : FrH v (sI (sI u 24 0) 25 0) := (fr.sI (by omega) _).sI (by omega) _
  have lv0 : LivR (sI (sI u 24 0) 25 0) T len e lb loc := lv.h (((FrH.refl u).sI (by omega) _).sI (by omega) _) rfl rfl rfl
  have at0 : AtR T e r (sI (sI u 24 0) 25 0) := at1.fr rfl rfl rfl rfl rfl
  have md0 : MdR (sI (sI u 24 0) 25 0) ws := hM.h fr0
  by_cases m : stN t.2.2 < 2
  · have im : isM t := ⟨ht, m⟩
    rw [tlG_M im] at h1 h2
    rw [List.append_nil] at h1
    by_cases c : stN t.2.2 = 0
    · rw [c] at h1 h2
      refine b_t (by rw [e26, s1.mpr c]; rfl) (b_t (by rw [e26, s1.mpr c]; rfl) (b_f (by decide) ?_))
      exact r_loc hl at0 lv0 md0 rfl rfl (fun z w hw' => h1 z w (LnR.up fr0.g hw')) (fun f ef w hw' => h2 f ef w (FltL.up fr0.g hw'))
    · have c1 : stN t.2.2 = 1 := by omega
      rw [c1] at h1 h2
      refine b_f (by rw [e26, s2.mpr c1]; decide) (b_t (by rw [e26, s2.mpr c1]; rfl) (b_f (by rw [e26, s2.mpr c1]; decide) (b_t rfl ?_)))
      exact r_blk hl at0 lv0 md0 rfl rfl (fun z w hw' => h1 z w (LnR.up fr0.g hw')) (fun f ef w hw' => h2 f ef w (FltL.up fr0.g hw'))
  · have iw : isW t := ⟨fun k => m k.2, Or.inl ht⟩
    rw [tlG_W iw] at h1 h2
    refine b_f (by rw [e26, q_lit, q_eq (by omega) (by omega)]; omega) (b_f (by rw [e26, q_lit, q_eq (by omega) (by omega)]; omega) (b_c (fun k => ?_) (fun k => ?_)))
    · rw [q_lit, q_eq (by omega) (by omega)] at k
      rw [if_neg (show ¬ p = 1 by omega)] at h1 h2
      unfold wdL at h1 h2
      simp only [nm]
      by_cases c34 : stN t.2.2 = 34
      · rw [if_neg (fun k => k.2 c34)] at h1 h2
        refine b_t (by show u.1 26 ≤ 0; rw [e26, s0.mpr c34]; decide) ?_
        have fr1 : FrH v (sL (sI (sI (sI (sI u 24 0) 25 0) 20 (nI q)) 22 1) 0 (jI (nameR 0 t.2.2))) := ((fr0.sI (by omega) _).sI (by omega) _).sL _ _
        have lv1 : LivR (sL (sI (sI (sI (sI u 24 0) 25 0) 20 (nI q)) 22 1) 0 (jI (nameR 0 t.2.2))) T len e lb loc := lv0.h ((((FrH.refl _).sI (by omega) _).sI (by omega) _).sL _ _) rfl rfl rfl
        have at2 : AtR T e (t :: r) (sL (sI (sI (sI (sI u 24 0) 25 0) 20 (nI q)) 22 1) 0 (jI (nameR 0 t.2.2))) := ⟨h13, by omega, Or.inl ⟨ht, hn, rfl, rfl⟩, q, rfl, hq⟩
        exact r_val (by omega) (QL.start at2 lv1 rfl rfl) (kp_K lv1 (hM.h fr1) hw (fun z w hw' => h1 z w (LnR.up fr1.g hw')) (fun z w hw' => h2 _ rfl w (FltL.up fr1.g hw')))
      · rw [if_pos ⟨ht, c34⟩] at h1 h2
        have lt := cl.1
        refine b_f (by show ¬ u.1 26 ≤ 0; rw [e26, q_lit, q_le (by omega) (by omega)]; omega) ?_
        exact r_stm (by omega) (by omega) hl e26 e27 (QL.start at0 lv0 rfl rfl) (kp_K lv0 md0 hw (fun z w hw' => h1 z w (LnR.up fr0.g hw')) (fun z w hw' => h2 _ rfl w (FltL.up fr0.g hw')))
    · rw [q_lit, q_eq (by omega) (by omega)] at k
      rw [if_pos (show p = 1 by omega)] at h1 h2
      refine r_on hl h13 lv (hM.h fr) (fun z w hw' => ?_) (fun z w hw' => ?_)
      · rw [if_pos z] at h1
        rw [List.append_nil] at h1
        exact h1 rfl w (LnR.up fr.g hw')
      · rw [if_neg z] at h2
        exact h2 7 rfl w (FltL.up fr.g hw')
/-- a line that does not begin with a name -/
theorem r_79 {p : Nat} (hp : p ≤ 1) (hl : loc ≤ 32768) (hA : AtR T e ts v) (hn : ∀ t r, ts = t :: r → t.1 ≠ 2) (hv : LivR v T len e lb loc) (hM : MdR v ws) (hw : ws.length < 6000)
    (h1 : (tlG p lb loc ts).1 = 0 → ∀ w, LnR v w lb (tlG p lb loc ts).2.1 (ws ++ (tlG p lb loc ts).2.2) → post w) (h2 : ∀ f, f = (tlG p lb loc ts).1 → ∀ w, FltL v f w → post w) : f_R_goThrough_79 post v (nI p) := by
  refine b_t hA.1 ?_
  cases ts with
  | nil =>
    refine b_t (by rw [hA.2]; rfl) (h1 rfl v ⟨FrG.refl v, hA.1, hv.2.2.2.1, hv.2.2.2.2, ?_⟩)
    show MdR v (ws ++ [])
    rw [List.append_nil]; exact hM
  | cons t r =>
    have n2 := hn t r rfl
    have e127 : (t.1 = 3 ∨ t.1 = 43 ∨ t.1 = 45) → f_R_goThrough_127 post v (nI p) := by
      intro k
      have iw : isW t := ⟨fun z => n2 z.1, Or.inr k⟩
      rw [tlG_W iw] at h1 h2
      refine b_c (fun k => ?_) (fun k => ?_)
      · rw [q_lit, q_eq (by omega) (by omega)] at k
        rw [if_neg (show ¬ p = 1 by omega)] at h1 h2
        unfold wdL at h1 h2
        rw [if_neg (fun k => n2 k.1)] at h1 h2
        simp only [nm]
        have fr0 : FrH v (sI (sI v 24 0) 25 0) := ((FrH.refl v).sI (by omega) _).sI (by omega) _
        have lv0 : LivR (sI (sI v 24 0) 25 0) T len e lb loc := hv.h fr0 rfl rfl rfl
        have at0 : AtR T e (t :: r) (sI (sI v 24 0) 25 0) := hA.fr rfl rfl rfl rfl rfl
        have b0 : ∀ w, post w → f_R_goThrough_149 post w (nI p) := fun w hw' => b_t (by rw [k]; rfl) hw'
        exact r_val (by omega) (QL.start at0 lv0 rfl rfl) (kp_K lv0 (hM.h fr0) hw (fun z w hw' => b0 w (h1 z w (LnR.up fr0.g hw'))) (fun z w hw' => b0 w (h2 _ rfl w (FltL.up fr0.g hw'))))
      · rw [q_lit, q_eq (by omega) (by omega)] at k
        rw [if_pos (show p = 1 by omega)] at h1 h2
        refine b_f (by rw [q_lit, q_eq (by omega) (by omega)]; exact k) (r_on hl hA.1 hv hM (fun z w hw' => ?_) (fun z w hw' => ?_))
        · rw [if_pos z] at h1
          rw [List.append_nil] at h1
          exact h1 rfl w hw'
        · rw [if_neg z] at h2
          exact h2 7 rfl w hw'
    rcases hA.k with ⟨k2, _⟩ | ⟨k3, k22⟩ | ⟨ks, k22, k23⟩
    · exact absurd k2 n2
    · exact b_f (by rw [k22]; decide) (b_f (by rw [k22]; decide) (e127 (Or.inl k3)))
    · refine b_f (by rw [k22]; decide) (b_t (by rw [k22]; rfl) ?_)
      have lt : t.1 < 256 := by unfold sgn at ks; omega
      rw [k23]
      refine b_c (fun k => e127 ?_) (fun k => b_c (fun k' => e127 ?_) (fun k' => ?_))
      · rw [q_lit, q_eq (by omega) (by omega)] at k; omega
      · rw [q_lit, q_eq (by omega) (by omega)] at k'; omega
      · rw [q_lit, q_eq (by omega) (by omega)] at k k'
        rw [tlG_N (by unfold sgn at ks; omega)] at h2
        exact r_stop hA.1 (h2 2 rfl _ (fltL (FrG.refl v) (by omega)))
/-- a line -/
theorem r_line {p s : Nat} (hp : p ≤ 1) (hl : loc ≤ 32768) (he : e ≤ len) (hT : RTx v T len) (h13 : v.1 13 = nI 0) (h21 : v.1 21 = nI e) (h20 : v.1 20 = nI s) (hlx : LexL T e s ts) (hL : LbR v lb) (h19 : v.1 19 = nI loc) (hM : MdR v ws) (hw : ws.length < 6000)
    (h1 : (lnG p lb loc ts).1 = 0 → ∀ w, LnR v w (lnG p lb loc ts).2.1 (lnG p lb loc ts).2.2.1 (ws ++ (lnG p lb loc ts).2.2.2) → post w) (h2 : ∀ f, f = (lnG p lb loc ts).1 → ∀ w, FltL v f w → post w) : f_R_goThrough post v (nI p) := by
  have hv : LivR v T len e lb loc := ⟨hT, he, h21, hL, h19⟩
  refine r_next he hT h13 h21 h20 hlx (fun w fw aw => ⟨ts.length + 1, ?_⟩) (fun t r er et w hw' => ⟨1, ?_⟩)
  · unfold lnG at h1 h2
    refine r_labs (τ := v) (by omega) hp ts.length ts w lb _ (Nat.le_refl _) (by omega) fw.h aw (hv.fr fw) (fun z hn y fy ay ly => ?_) (fun z t r et e2 hn q y fy ay hq ly => ?_) (fun f ef y hy => ?_)
    · rw [if_pos z] at h1 h2
      exact r_79 hp hl ay hn ly (hM.h fy) hw (fun k x hx => h1 k x (LnR.up fy.g hx)) (fun f ef x hx => h2 f ef x (FltL.up fy.g hx))
    · rw [if_pos z] at h1 h2
      rw [et] at h1 h2
      exact r_beg hp hl e2 hn ay hq ly (hM.h fy) hw (fun k x hx => h1 k x (LnR.up fy.g hx)) (fun f ef x hx => h2 f ef x (FltL.up fy.g hx))
    · have := hy.2.2.2.1
      rw [if_neg (by omega)] at h2
      exact h2 f ef y hy
  · have fl : FltL v 1 w := FltR.l ⟨hw', by omega⟩
    unfold lnG at h2
    subst er
    rw [if_neg (by rw [labs_b et]; omega), labs_b et] at h2
    rw [f_R_goThrough_5]
    exact b_f fl.ne (b_f fl.ne (h2 1 rfl w fl))
end
