/-! the pure side: lines, the reference -/
/-- what a line's labels leave alone -/
def FrH (τ v : SS) : Prop := (∀ k, k ≠ 13 → k ≠ 14 → k ≠ 16 → k ≠ 20 → (k < 22 ∨ 27 < k) → v.1 k = τ.1 k) ∧ (∀ k, k ≠ 11 → k ≠ 16 → k ≠ 17 → v.2.1 k = τ.2.1 k) ∧ (∀ k, k ≠ 10 → v.2.2.2 k = τ.2.2.2 k) ∧ Zf τ v
/-- what a line leaves alone -/
def FrG (τ v : SS) : Prop := (∀ k, k ≠ 13 → k ≠ 14 → k ≠ 16 → k ≠ 18 → k ≠ 19 → k ≠ 20 → (k < 22 ∨ 27 < k) → v.1 k = τ.1 k) ∧ (∀ k, k ≠ 11 → k ≠ 14 → k ≠ 15 → k ≠ 16 → k ≠ 17 → v.2.1 k = τ.2.1 k) ∧ (∀ k, k ≠ 10 → v.2.2.2 k = τ.2.2.2 k) ∧ Zf τ v
theorem FrH.refl (τ : SS) : FrH τ τ := ⟨fun _ _ _ _ _ _ => rfl, fun _ _ _ _ => rfl, fun _ _ => rfl, Zf.refl τ⟩
theorem FrH.trans {a b c : SS} (h : FrH a b) (g : FrH b c) : FrH a c := ⟨fun k h1 h2 h3 h4 h5 => (g.1 k h1 h2 h3 h4 h5).trans (h.1 k h1 h2 h3 h4 h5), fun k h1 h2 h3 => (g.2.1 k h1 h2 h3).trans (h.2.1 k h1 h2 h3), fun k h1 => (g.2.2.1 k h1).trans (h.2.2.1 k h1), h.2.2.2.trans g.2.2.2⟩
theorem FrG.refl (τ : SS) : FrG τ τ := ⟨fun _ _ _ _ _ _ _ _ => rfl, fun _ _ _ _ _ _ => rfl, fun _ _ => rfl, Zf.refl τ⟩
theorem FrG.trans {a b c : SS} (h : FrG a b) (g : FrG b c) : FrG a c := ⟨fun k h1 h2 h3 h4 h5 h6 h7 => (g.1 k h1 h2 h3 h4 h5 h6 h7).trans (h.1 k h1 h2 h3 h4 h5 h6 h7), fun k h1 h2 h3 h4 h5 => (g.2.1 k h1 h2 h3 h4 h5).trans (h.2.1 k h1 h2 h3 h4 h5), fun k h1 => (g.2.2.1 k h1).trans (h.2.2.1 k h1), h.2.2.2.trans g.2.2.2⟩
theorem FrH.g {a b : SS} (h : FrH a b) : FrG a b := ⟨fun k h1 h2 h3 _ _ h4 h5 => h.1 k h1 h2 h3 h4 h5, fun k h1 _ _ h2 h3 => h.2.1 k h1 h2 h3, h.2.2⟩
theorem FrQ.h {a b : SS} (h : FrQ a b) : FrH a b := ⟨fun k h1 h2 h3 h4 h5 => h.1 k h1 h2 h4 (by omega) (by omega) (by omega) (by omega), fun k h1 h2 h3 => h.2.1 k h2 h3, fun k _ => by rw [h.2.2.1], h.2.2.2⟩
theorem FrN.h {a b : SS} (h : FrN a b) : FrH a b := h.frq.h
theorem FrH.flt {a b : SS} (h : FrH a b) {f : Nat} (hf : 0 < f) (h8 : f < 8) (v : Int32) : FrH a (sI (sI b 13 (nI f)) 14 v) := ⟨fun j h1 h2 h3 h4 h5 => by rw [sI_1, if_neg h2, sI_1, if_neg h1]; exact h.1 j h1 h2 h3 h4 h5, h.2.1, h.2.2.1, Zf.flt (f := f) hf h8 rfl⟩
theorem FrH.sI {a b : SS} (h : FrH a b) {k : Nat} (hk : k = 16 ∨ k = 20 ∨ (22 ≤ k ∧ k ≤ 27)) (v : Int32) : FrH a (sI b k v) := ⟨fun j h1 h2 h3 h4 h5 => by rw [sI_1, if_neg (by omega)]; exact h.1 j h1 h2 h3 h4 h5, h.2.1, h.2.2.1, h.2.2.2.sI (by omega) (by omega) v⟩
theorem FrG.flt {a b : SS} (h : FrG a b) {f : Nat} (hf : 0 < f) (h8 : f < 8) (v : Int32) : FrG a (sI (sI b 13 (nI f)) 14 v) := ⟨fun j h1 h2 h3 h4 h5 h6 h7 => by rw [sI_1, if_neg h2, sI_1, if_neg h1]; exact h.1 j h1 h2 h3 h4 h5 h6 h7, h.2.1, h.2.2.1, Zf.flt (f := f) hf h8 rfl⟩
theorem FrG.sI {a b : SS} (h : FrG a b) {k : Nat} (hk : k = 16 ∨ k = 18 ∨ k = 19 ∨ k = 20 ∨ (22 ≤ k ∧ k ≤ 27)) (v : Int32) : FrG a (sI b k v) := ⟨fun j h1 h2 h3 h4 h5 h6 h7 => by rw [sI_1, if_neg (by omega)]; exact h.1 j h1 h2 h3 h4 h5 h6 h7, h.2.1, h.2.2.1, h.2.2.2.sI (by omega) (by omega) v⟩
theorem FrH.sA {a b : SS} (h : FrH a b) {k : Nat} (hk : k = 11 ∨ k = 16 ∨ k = 17) (i : Nat) (v : Int32) : FrH a (sA b k i v) := ⟨h.1, fun j h1 h2 h3 => by rw [sA_2, if_neg (by omega)]; exact h.2.1 j h1 h2 h3, h.2.2.1, h.2.2.2⟩
theorem FrG.sA {a b : SS} (h : FrG a b) {k : Nat} (hk : k = 11 ∨ k = 14 ∨ k = 15 ∨ k = 16 ∨ k = 17) (i : Nat) (v : Int32) : FrG a (sA b k i v) := ⟨h.1, fun j h1 h2 h3 h4 h5 => by rw [sA_2, if_neg (by omega)]; exact h.2.1 j h1 h2 h3 h4 h5, h.2.2.1, h.2.2.2⟩
theorem FrH.sB {a b : SS} (h : FrH a b) (i : Nat) (v : Int64) : FrH a (sB b 10 i v) := ⟨h.1, h.2.1, fun j h1 => by rw [sB_4, if_neg h1]; exact h.2.2.1 j h1, h.2.2.2⟩
theorem FrH.sL {a b : SS} (h : FrH a b) (k : Nat) (v : Int64) : FrH a (sL b k v) := ⟨h.1, h.2.1, h.2.2⟩
theorem r_stopF {τ : SS} {x : Int32} {post : Int32 → SS → Prop} (h0 : ¬ τ.1 13 = 0) (h : post 0 τ) : f_R_stop post τ x := b_f h0 h
theorem f_n0 {f : Nat} {τ : SS} (h : τ.1 13 = nI f) (h1 : 0 < f) (h2 : f < 8) : ¬ τ.1 13 = 0 := by
  rw [h, q_lit, q_eq (by omega) (by omega)]
  omega
theorem LbR.snoc {τ w : SS} {lb : Lb} {cs : List Nat} {loc : Nat} (h : LbR τ lb) (hc : isN cs) (hl : loc < 65536) (h2 : lb.length < 200) (h16 : w.1 16 = nI (lb.length + 1)) (h10 : w.2.2.2 10 = vp_updL (τ.2.2.2 10) lb.length (jI (nameR 0 cs))) (h11 : w.2.1 11 = upd (τ.2.1 11) lb.length (nI loc)) : LbR w (lb ++ [(cs, loc)]) := by
  obtain ⟨t1, t2, t3⟩ := h
  refine ⟨by rw [List.length_append, List.length_singleton]; omega, by rw [List.length_append]; exact h16, fun i hi => ?_⟩
  rw [getD_lb hi, h10, h11, uL_at, u_at]
  rw [List.length_append, List.length_singleton] at hi
  by_cases c : i = lb.length
  · rw [if_pos c, if_pos c, if_pos c]; exact ⟨hc, hl, rfl, rfl⟩
  · rw [if_neg c, if_neg c, if_neg c]; exact t3 i (by omega)
theorem sr_0 : ∀ t, t < 35 → (srN t = 0 ↔ t = 34) ∧ (srN t = 1 ↔ t = 0) ∧ (srN t = 2 ↔ t = 1) ∧ srN t < 10 := by decide +kernel
theorem LivR.h {v w : SS} {T : Nat → Nat} {len e loc : Nat} {lb : Lb} (h : LivR v T len e lb loc) (f : FrH v w) (h16 : w.1 16 = v.1 16) (h11 : w.2.1 11 = v.2.1 11) (h10 : w.2.2.2 10 = v.2.2.2 10) : LivR w T len e lb loc := by
  obtain ⟨⟨t1, t2, t3⟩, h2, h3, ⟨l1, l2, l3⟩, h5⟩ := h
  refine ⟨⟨t1, by rw [f.1 12 (by omega) (by omega) (by omega) (by omega) (by omega)]; exact t2, by rw [f.2.1 9 (by omega) (by omega) (by omega)]; exact t3⟩, h2, by rw [f.1 21 (by omega) (by omega) (by omega) (by omega) (by omega)]; exact h3, ⟨l1, by rw [h16]; exact l2, by rw [h10, h11]; exact l3⟩, by rw [f.1 19 (by omega) (by omega) (by omega) (by omega) (by omega)]; exact h5⟩
theorem r_add {v : SS} {T : Nat → Nat} {len e loc : Nat} {lb : Lb} {cs : List Nat} {ts : List Tk} {post : SS → Prop} (hn : isN cs) (hl : loc < 65536) (hA : AtR T e ts v) (hv : LivR v T len e lb loc)
    (h1 : dfF lb cs = 0 → ∀ w, FrH v w → AtR T e ts w → LivR w T len e (lb ++ [(cs, loc)]) loc → post w) (h2 : ∀ f, f = dfF lb cs → 0 < f → f < 8 → ∀ w, FrH v w → w.1 13 = nI f → w.1 14 = v.1 15 → post w) : f_R_addLabel post v (jI (nameR 0 cs)) := by
  have cl := stN_cls hn
  have e46 : (46 : Int64) = jI (nameR 0 [46]) := by decide
  obtain ⟨s1, _, _, s4⟩ := sr_0 _ cl.1
  refine cl.2.2.2 v _ ?_
  have h13 : (sS v (srN (stN cs)) (bsN (stN cs) cs)).1 13 = nI 0 := hA.1
  have fr : FrH v (sS v (srN (stN cs)) (bsN (stN cs) cs)) := ((FrH.refl v).sI (by omega) _).sI (by omega) _
  have lv : LivR (sS v (srN (stN cs)) (bsN (stN cs) cs)) T len e lb loc := hv.h fr rfl rfl rfl
  have at1 : AtR T e ts (sS v (srN (stN cs)) (bsN (stN cs) cs)) := hA.fr rfl rfl rfl rfl rfl
  have e26 : (sS v (srN (stN cs)) (bsN (stN cs) cs)).1 26 = nI (srN (stN cs)) := rfl
  have e15 : (sS v (srN (stN cs)) (bsN (stN cs) cs)).1 15 = v.1 15 := rfl
  generalize sS v (srN (stN cs)) (bsN (stN cs) cs) = u at *
  have bad : (cs = [46] ∨ givN cs ≠ 4294967295 ∨ stN cs ≠ 34 ∨ lkL lb cs ≠ 4294967295) → f_R_addLabel_35 post u (jI (nameR 0 cs)) := by
    intro z
    have d4 : 4 = dfF lb cs := by unfold dfF; rw [if_pos z]
    have n0 : ¬ (sI (sI u 13 (nI 4)) 14 (u.1 15)).1 13 = 0 := f_n0 (f := 4) rfl (by omega) (by omega)
    have fin : post (sI (sI u 13 (nI 4)) 14 (u.1 15)) := h2 4 d4 (by omega) (by omega) _ (fr.flt (by omega) (by omega) _) rfl e15
    exact r_stop h13 (b_c (fun _ => r_stopF n0 (b_f n0 fin)) (fun _ => b_f n0 fin))
  have good : ¬ (cs = [46] ∨ givN cs ≠ 4294967295 ∨ stN cs ≠ 34 ∨ lkL lb cs ≠ 4294967295) → f_R_addLabel_41 post u (jI (nameR 0 cs)) := by
    intro z
    unfold dfF at h1 h2
    rw [if_neg z] at h1 h2
    obtain ⟨_, _, _, lr, l19⟩ := id lv
    obtain ⟨t1, t2, t3⟩ := id lr
    by_cases c : lb.length = 200
    · rw [if_pos (by omega)] at h2
      refine b_t (by rw [t2, c]; rfl) (r_stop h13 ?_)
      exact b_f (f_n0 (f := 7) rfl (by omega) (by omega)) (h2 7 rfl (by omega) (by omega) _ (fr.flt (f := 7) (by omega) (by omega) _) rfl e15)
    · rw [if_neg (by omega)] at h1
      refine b_f (by rw [t2, q_lit, q_eq (by omega) (by omega)]; exact c) (b_t h13 ⟨by rw [t2, q_in (by omega)]; omega, by show vp_in (u.1 16) 200; rw [t2, q_in (by omega)]; omega, h1 rfl _ ?_ ?_ ?_⟩)
      · exact ((fr.sB _ _).sA (by omega) _ _).sI (by omega) _
      · exact at1.fr rfl rfl rfl rfl rfl
      · obtain ⟨⟨x1, x2, x3⟩, y2, y3, _, _⟩ := id lv
        refine ⟨⟨x1, x2, x3⟩, y2, y3, lr.snoc hn hl (by omega) ?_ ?_ ?_, l19⟩
        · show u.1 16 + nI 1 = _
          rw [t2, q_add]
        · show vp_updL (u.2.2.2 10) (u.1 16).toNatClampNeg _ = _
          rw [t2, q_cl (by omega)]
        · show upd (u.2.1 11) (u.1 16).toNatClampNeg (u.1 19) = _
          rw [t2, q_cl (by omega), l19]
  rw [e46]
  refine b_c (fun z => bad ?_) (fun z => ?_)
  · rw [q_lit, j_c0, eqR hn isN_46] at z; exact Or.inl z
  · rw [q_lit, j_c0, eqR hn isN_46] at z
    refine r_giv hn ?_
    by_cases y : givN cs = 4294967295
    · rw [y]
      refine b_f (by decide) ?_
      rw [e26]
      refine b_c (fun x => bad ?_) (fun x => ?_)
      · rw [q_lit, q_lt (by omega) (by omega)] at x
        exact Or.inr (Or.inr (Or.inl (by omega)))
      · rw [q_lit, q_lt (by omega) (by omega)] at x
        refine r_lab hn lv.2.2.2.1 (fun w => b_t (by decide) (good ?_)) (fun i hi w w2 => b_f ?_ (bad (Or.inr (Or.inr (Or.inr w2)))))
        · rintro (k | k | k | k)
          · exact z k
          · exact k y
          · exact k (by omega)
          · exact k w
        · have := lv.2.2.2.1.1
          rw [q_lit, q_lt (by omega) (by omega)]; omega
    · have lt : givN cs < 64 := by rcases givN_lt cs with x | x; exact absurd x y; exact x
      exact b_t (by rw [q_lit, q_le (by omega) (by omega)]; omega) (bad (Or.inr (Or.inl y)))
/-- a line's fault -/
def FltL (τ : SS) (f : Nat) (v : SS) : Prop := FrG τ v ∧ v.1 13 = nI f ∧ v.1 14 = τ.1 15 ∧ 0 < f ∧ f < 8
theorem FltL.ne {τ v : SS} {f : Nat} (h : FltL τ f v) : ¬ v.1 13 = 0 := f_n0 h.2.1 h.2.2.2.1 h.2.2.2.2
theorem FltL.up {τ v w : SS} {f : Nat} (g : FrG τ v) (h : FltL v f w) : FltL τ f w := ⟨g.trans h.1, h.2.1, by rw [h.2.2.1, g.1 15 (by omega) (by omega) (by omega) (by omega) (by omega) (by omega) (by omega)], h.2.2.2⟩
theorem FltR.l {τ v : SS} {f : Nat} (h : FltR τ f v) : FltL τ f v := ⟨h.1.1.h.g, h.1.2.1, h.1.2.2, h.2⟩
theorem QF.l {τ v : SS} {f n : Nat} (h : QF τ v f n) : FltL τ f v := ⟨h.1.h.g, h.2.1, h.2.2.1, h.2.2.2.1, h.2.2.2.2.1⟩
theorem fltL {τ v : SS} {f : Nat} (g : FrG τ v) (hf : 0 < f ∧ f < 8) : FltL τ f (sI (sI v 13 (nI f)) 14 (v.1 15)) := ⟨g.flt hf.1 hf.2 _, rfl, g.1 15 (by omega) (by omega) (by omega) (by omega) (by omega) (by omega) (by omega), hf⟩
theorem AtR.k {T : Nat → Nat} {e : Nat} {t : Tk} {r : List Tk} {v : SS} (h : AtR T e (t :: r) v) : (t.1 = 2 ∧ isN t.2.2 ∧ v.1 22 = nI 1 ∧ v.2.2.1 0 = jI (nameR 0 t.2.2)) ∨ (t.1 = 3 ∧ v.1 22 = nI 2) ∨ (sgn t.1 ∧ v.1 22 = nI 3 ∧ v.1 23 = nI t.1) := by
  obtain ⟨_, _, hk, _⟩ := h
  rcases hk with ⟨a, b, c, d⟩ | ⟨a, b, c, d⟩ | ⟨a, b, c⟩
  · exact Or.inl ⟨a, b, c, d⟩
  · exact Or.inr (Or.inl ⟨a, c⟩)
  · exact Or.inr (Or.inr ⟨a, b, c⟩)
theorem r_labs {τ : SS} {T : Nat → Nat} {len e loc p : Nat} {post : SS → Prop} (hl : loc < 65536) (hp : p ≤ 1) (k : Nat) : ∀ (ts : List Tk) (v : SS) (lb : Lb) (n : Nat), ts.length ≤ k → k < n → FrH τ v → AtR T e ts v → LivR v T len e lb loc →
    ((labs p loc lb ts).1 = 0 → (∀ t r, (labs p loc lb ts).2.2 = t :: r → t.1 ≠ 2) → ∀ w, FrH τ w → AtR T e (labs p loc lb ts).2.2 w → LivR w T len e (labs p loc lb ts).2.1 loc → f_R_goThrough_79 post w (nI p)) →
    ((labs p loc lb ts).1 = 0 → ∀ t r, (labs p loc lb ts).2.2 = t :: r → t.1 = 2 → isN t.2.2 → ∀ q w, FrH τ w → AtR T e r w → LexL T e q r → LivR w T len e (labs p loc lb ts).2.1 loc → f_R_begin post w (jI (nameR 0 t.2.2)) (nI q) (nI p)) →
    (∀ f, f = (labs p loc lb ts).1 → ∀ w, FltL τ f w → post w) → f_R_goThrough_5 post n v (nI p) := by
  induction k using Nat.strongRecOn with
  | _ k IH =>
  intro ts v lb n hk hkn hf hA hv h1 h2 h3
  obtain ⟨n, rfl⟩ : ∃ m, n = m + 1 := ⟨n - 1, by omega⟩
  rw [f_R_goThrough_5]
  refine b_t hA.1 ?_
  cases ts with
  | nil =>
    exact b_f (by rw [hA.2]; decide) (h1 rfl (fun t r e' => by cases e') v hf hA hv)
  | cons t r =>
    have nb := hA.nb t r rfl
    rcases hA.k with ⟨k2, nm2, k22, kl⟩ | ⟨k3, k22⟩ | ⟨ks, k22, _⟩
    · refine b_t (by rw [k22]; rfl) ?_
      obtain ⟨_, _, _, q, h20, hlx⟩ := id hA
      simp only [nm]
      rw [kl, h20]
      refine r_go hA hv (fun w fw aw => b_t aw.1 ?_) (fun s r' er es w hw => b_f hw.ne ?_)
      · have fm := hf.trans fw.h
        have lw := hv.fr fw
        refine r_sign (c := 58) aw (by omega) (fun s r' er es _ => b_f (by decide) ?_) (fun y => b_t rfl ?_)
        · subst er
          rw [List.length_cons, List.length_cons] at hk
          by_cases p1 : p = 1
          · rw [labs_d k2 es p1] at h1 h2 h3
            refine b_f (by rw [p1]; decide) (r_add nm2 hl aw lw (fun d u fu au lu => ?_) (fun f ef f1 f2 u fu u13 u14 => ?_))
            · rw [if_pos d] at h1 h2 h3
              refine r_go au lu (fun y fy ay => ?_) (fun s' r'' er es' y hy => ?_)
              · exact IH r'.length (by omega) r' y _ n (Nat.le_refl _) (by omega) ((fm.trans fu).trans fy.h) ay (lu.fr fy) h1 h2 h3
              · subst er
                obtain ⟨m, rfl⟩ : ∃ m, n = m + 1 := ⟨n - 1, by omega⟩
                have fl := FltL.up (fm.trans fu).g hy.l
                rw [f_R_goThrough_5]
                exact b_f hy.ne (b_f hy.ne (h3 1 (labs_b es').symm y fl))
            · rw [if_neg (by omega)] at h3
              have n0 := f_n0 u13 f1 f2
              obtain ⟨m, rfl⟩ : ∃ m, n = m + 1 := ⟨n - 1, by omega⟩
              refine r_nextF n0 ?_
              rw [f_R_goThrough_5]
              exact b_f n0 (b_f n0 (h3 f ef u (FltL.up fm.g ⟨fu.g, u13, u14, f1, f2⟩)))
          · obtain rfl : p = 0 := by omega
            rw [labs_0 k2 es (by omega)] at h1 h2 h3
            refine b_t rfl (r_go aw lw (fun y fy ay => ?_) (fun s' r'' er es' y hy => ?_))
            · exact IH r'.length (by omega) r' y _ n (Nat.le_refl _) (by omega) (fm.trans fy.h) ay (lw.fr fy) h1 h2 h3
            · subst er
              obtain ⟨m, rfl⟩ : ∃ m, n = m + 1 := ⟨n - 1, by omega⟩
              have fl := FltL.up fm.g hy.l
              rw [f_R_goThrough_5]
              exact b_f hy.ne (b_f hy.ne (h3 1 (labs_b es').symm y fl))
        · have y' : r = [] ∨ ∃ s r', r = s :: r' ∧ s.1 ≠ 58 ∧ s.1 ≠ 1 := by
            rcases y with y | ⟨s, r', er, y⟩
            · exact Or.inl y
            · refine Or.inr ⟨s, r', er, ?_, aw.nb s r' er⟩
              rcases y with y | y
              · exact y
              · exact absurd (by unfold sgn; omega) y
          rw [labs_s k2 y'] at h2
          exact h2 rfl t r rfl k2 nm2 q w fm aw hlx lw
      · subst er
        exact h3 1 (labs_1 k2 es).symm w (FltL.up hf.g hw.l)
    · rw [labs_n nb (by omega)] at h1
      exact b_f (by rw [k22]; decide) (h1 rfl (fun t' r' e' => by cases e'; omega) v hf hA hv)
    · have n2 : t.1 ≠ 2 := by unfold sgn at ks; omega
      rw [labs_n nb n2] at h1
      exact b_f (by rw [k22]; decide) (h1 rfl (fun t' r' e' => by cases e'; exact n2) v hf hA hv)
