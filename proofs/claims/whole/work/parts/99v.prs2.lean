/-! the pure side: the reference's statements, to their ends -/
def vio : As → Nat
  | [] => 0
  | p :: r => if p.2 < p.1 then 1 else vio r
def finF (ts : List Tk) (as : As) (o : Nat) : Nat := if ts ≠ [] then 2 else if vio as = 1 then 5 else if o = 1 then 6 else 0
theorem vio_d {as : As} {j : Nat} (hj : j < as.length) : vio (as.drop j) = if (as.getD j (0, 0)).2 < (as.getD j (0, 0)).1 then 1 else vio (as.drop (j + 1)) := by
  rw [List.drop_eq_getElem_cons hj]
  simp [vio, List.getD, List.getElem?_eq_getElem hj]
section
variable {τ v : SS} {T : Nat → Nat} {len e loc : Nat} {lb : Lb} {ts : List Tk} {as : As} {o : Nat}
theorem r_64F {f n : Nat} {post : SS → Prop} (h : QF τ v f n) (k : post v) : f_R_finish_64 post v := b_c (fun _ => k) (fun _ => b_f h.ne k)
theorem r_22F {f n m : Nat} {x : Int32} {post : SS → Prop} (h : QF τ v f n) (k : post v) : f_R_finish_22 post (m + 1) v x := by
  rw [f_R_finish_22]
  exact b_c (fun _ => r_64F h k) (fun _ => b_f h.ne (r_64F h k))
theorem r_finF {f n : Nat} {post : SS → Prop} (h : QF τ v f n) (k : post v) : f_R_finish post v := b_f h.ne ⟨1, r_22F h k⟩
theorem r_fin {post : SS → Prop} (h : QL τ v T len e lb loc ts as o) (ho1 : o ≤ 1) (hn : as.length < 8) (h0 : finF ts as o = 0 → post v) (h1 : ∀ f, f = finF ts as o → ∀ w, QF τ w f as.length → post w) : f_R_finish post v := by
  obtain ⟨f0, hA, hv, ⟨a1, a2⟩, ho⟩ := id h
  unfold finF at h0 h1
  refine b_t hA.1 ?_
  cases ts with
  | cons t r =>
    obtain ⟨_, _, hk, _⟩ := hA
    have n22 : ¬ v.1 22 = 0 := by
      rcases hk with ⟨_, _, k3, _⟩ | ⟨_, _, k3, _⟩ | ⟨_, k3, _⟩
      · rw [k3]; decide
      · rw [k3]; decide
      · rw [k3]; decide
    have fl := h.flt (f := 2) (by omega)
    rw [if_pos (List.cons_ne_nil _ _)] at h1
    exact b_f n22 (r_stop h.2.1.1 ⟨1, r_22F fl (h1 2 rfl _ fl)⟩)
  | nil =>
    have e22 : v.1 22 = nI 0 := hA.2
    rw [if_neg (by simp)] at h0 h1
    refine b_t (by rw [e22]; rfl) ?_
    have end64 : vio as = 0 → f_R_finish_64 post v := by
      intro z
      rw [if_neg (by omega)] at h0 h1
      show br (v.1 25 = 0) _ _
      rw [ho]
      by_cases c : o = 1
      · rw [if_pos c] at h1
        have fl := h.flt (f := 6) (by omega)
        exact b_f (by rw [c]; decide) (r_stop h.2.1.1 (h1 6 rfl _ fl))
      · obtain rfl : o = 0 := by omega
        exact b_t rfl (h0 (by rw [if_neg (by omega)]))
    have L : ∀ k j, j + k = as.length → vio (as.drop j) = vio as → f_R_finish_22 post (k + 1) v (nI j) := by
      intro k
      induction k with
      | zero =>
        intro j hj hd
        rw [f_R_finish_22, a1]
        refine b_t (by rw [q_le (by omega) (by omega)]; omega) (end64 ?_)
        rw [← hd, List.drop_of_length_le (by omega)]
        rfl
      | succ k ih =>
        intro j hj hd
        obtain ⟨c1, c2, c3, c4⟩ := a2 j (by omega)
        rw [vio_d (by omega)] at hd
        rw [f_R_finish_22, a1]
        refine b_f (by rw [q_le (by omega) (by omega)]; omega) (b_t hA.1 ⟨by rw [q_in (by omega)]; omega, by rw [q_in (by omega)]; omega, ?_⟩)
        rw [q_cl (by omega), c1, c2]
        refine b_c (fun z => ?_) (fun z => ?_)
        · rw [q_le (by omega) (by omega)] at z
          rw [if_neg (by omega)] at hd
          simp only [f_R_finish_58, nm]
          rw [show nI j + 1 = nI (j + 1) from q_add j 1]
          exact ih (j + 1) (by omega) hd
        · rw [q_le (by omega) (by omega)] at z
          rw [if_pos (by omega)] at hd
          rw [if_pos hd.symm] at h1
          have fl := h.flt (f := 5) (by omega)
          refine r_stop h.2.1.1 ?_
          simp only [f_R_finish_58, nm]
          exact r_22F fl (h1 5 rfl _ fl)
    exact ⟨as.length + 1, L as.length 0 (by omega) rfl⟩
/-- a word kept -/
def kpt (v : SS) (mc loc : Nat) (x : Int32) : SS := sI (sI (sA (sA v 14 mc (nI loc)) 15 mc x) 18 (nI (mc + 1))) 19 (nI (loc + 1))
def KP (τ : SS) (loc mc : Nat) (post : SS → Prop) (S : Nat × Nat) : Prop := τ.1 18 = nI mc ∧ mc < 6000 ∧ (S.1 = 0 → ∀ w, FrQ τ w → w.1 13 = nI 0 → post (kpt w mc loc (nI S.2))) ∧ (S.1 ≠ 0 → ∀ w n, QF τ w S.1 n → post w)
theorem r_kpF {f n mc : Nat} {x : Int32} {post : SS → Prop} {S : Nat × Nat} (h : QF τ v f n) (hK : KP τ loc mc post S) (hS : S.1 = f) : f_R_keep post v x := by
  have h5 : post v := by
    have := h.2.2.2.1
    exact hK.2.2.2 (by omega) v n (by rw [hS]; exact h)
  exact r_finF h (b_f h.ne h5)
theorem r_kp {mc wv : Nat} {post : SS → Prop} {S : Nat × Nat} (h : QL τ v T len e lb loc ts as o) (ho1 : o ≤ 1) (hn : as.length < 8) (hK : KP τ loc mc post S) (hS : S.1 = finF ts as o) (hS2 : S.1 = 0 → S.2 = wv) : f_R_keep post v (nI wv) := by
  obtain ⟨f0, hA, hv, ⟨a1, a2⟩, ho⟩ := id h
  obtain ⟨k1, k2, k3, k4⟩ := hK
  have e18 : v.1 18 = nI mc := by rw [f0.s 18 (by omega)]; exact k1
  have e19 := hv.2.2.2.2
  refine r_fin h ho1 hn (fun z => b_t hA.1 ⟨by rw [e18, q_in (by omega)]; omega, ?_⟩) (fun f ef w hw => ?_)
  · simp only [nm]
    refine ⟨by show vp_in (v.1 18) 6000; rw [e18, q_in (by omega)]; omega, ?_⟩
    have := k3 (by omega) v f0 hA.1
    rw [hS2 (by omega)] at this
    have e1 : (sI (sI (sA (sA v 14 (v.1 18).toNatClampNeg (v.1 19)) 15 (v.1 18).toNatClampNeg (nI wv)) 18 (v.1 18 + 1)) 19 (v.1 19 + 1)) = kpt v mc loc (nI wv) := by
      unfold kpt
      rw [e18, e19, q_cl (by omega), show nI mc + 1 = nI (mc + 1) from q_add mc 1, show nI loc + 1 = nI (loc + 1) from q_add loc 1]
    rw [← e1] at this
    exact this
  · have p := hw.2.2.2.1
    exact b_f hw.ne (k4 (by omega) w _ (by rw [hS, ← ef]; exact hw))
/-- a statement's word in the end -/
def stB (lb : Lb) (loc f b : Nat) (ts : List Tk) : Nat × Nat := if (rd lb loc f ts).1 = 0 then wd f b (rd lb loc f ts).2.1 loc (rd lb loc f ts).2.2 else ((rd lb loc f ts).1, 0)
def stG (lb : Lb) (loc f b : Nat) (ts : List Tk) : Nat × Nat := stB lb loc f (b + (hsh f ts).1) (hsh f ts).2
theorem rdO_n (lb : Lb) (loc ad le n i : Nat) (ts : List Tk) (ind : Nat) (vs : List Nat) (h : i ≠ ad) : rdO lb loc ad le (n + 1) i ts ind vs = if (exE lb loc ts).1 = 0 then rdM le (rdO lb loc ad le n) n i (exE lb loc ts).2.2 ind (vs ++ [vN (exE lb loc ts).2.1]) else ((exE lb loc ts).1, ind, vs) := by
  rw [rdO_s, if_neg h, opE_0 (fun _ _ _ w => by omega)]
  rfl
theorem rdM_c {le n i ind : Nat} {K : Nat → List Tk → Nat → List Nat → Nat × Nat × List Nat} {t : Tk} {r : List Tk} {vs : List Nat} (h : t.1 = 44) : rdM le K (n + 1) i (t :: r) ind vs = K (i + 1) r ind vs := by
  unfold rdM
  rw [if_neg (by omega)]
  show (if t.1 = 44 then _ else _) = _
  rw [if_pos h]
theorem rdM_f {le n i ind : Nat} {K : Nat → List Tk → Nat → List Nat → Nat × Nat × List Nat} {ts : List Tk} {vs : List Nat} (h : ts = [] ∨ ∃ t r, ts = t :: r ∧ t.1 ≠ 44) : rdM le K n i ts ind vs = fiO le ts ind vs := by
  unfold rdM
  by_cases c : n = 0
  · rw [if_pos c]
  · rw [if_neg c]
    rcases h with h | ⟨t, r, h, h2⟩
    · rw [h]
    · rw [h]
      show (if t.1 = 44 then _ else _) = _
      rw [if_neg h2]
theorem rdM_0 {le i ind : Nat} {K : Nat → List Tk → Nat → List Nat → Nat × Nat × List Nat} {ts : List Tk} {vs : List Nat} : rdM le K 0 i ts ind vs = fiO le ts ind vs := by
  unfold rdM
  rw [if_pos rfl]
theorem st_F {f b g : Nat} (h : (rd lb loc f ts).1 = g) (hg : g ≠ 0) : (stB lb loc f b ts).1 = g := by
  unfold stB
  rw [if_neg (by omega)]
  exact h
theorem st_E {f b ind wv : Nat} {rest : List Tk} {vs : List Nat} (h : rd lb loc f ts = fiO (leN f) rest ind vs) (hl : leN f ≤ vs.length) (h1 : (wd f b ind loc vs).1 = if vio as = 1 then 5 else if o = 1 then 6 else 0) (h2 : (wd f b ind loc vs).1 = 0 → (wd f b ind loc vs).2 = wv) : (stB lb loc f b ts).1 = finF rest as o ∧ ((stB lb loc f b ts).1 = 0 → (stB lb loc f b ts).2 = wv) := by
  unfold stB
  rw [h]
  unfold fiO finF
  by_cases c : rest = []
  · have nn : ¬ (vs.length < leN f ∨ rest ≠ []) := by
      rintro (z | z)
      · omega
      · exact z c
    rw [if_neg nn, if_pos rfl, if_neg (fun z => z c)]
    exact ⟨h1, h2⟩
  · rw [if_pos (Or.inr c), if_neg (show ¬ (2 : Nat) = 0 by omega), if_pos c]
    exact ⟨rfl, fun z => absurd (show (2 : Nat) = 0 from z) (by omega)⟩
theorem vio1 (a m : Nat) : vio [(a, m)] = if m < a then 1 else 0 := rfl
theorem vio2 (a m b n : Nat) : vio [(a, m), (b, n)] = if m < a then 1 else if n < b then 1 else 0 := rfl
theorem vio3 (a m b n c k : Nat) : vio [(a, m), (b, n), (c, k)] = if m < a then 1 else if n < b then 1 else if k < c then 1 else 0 := rfl
/-- one bounded operand -/
theorem r_one {f b mc most k : Nat} {g : Int32 → Int32} {post : SS → Prop} (hg : ∀ x, g (nI x) = nI (b + k * x)) (hl : loc < 65536) (hmo : moN f = 1) (hle : leN f = 1) (had : adN f ≠ 0) (hm : most < 65536) (h : QL τ v T len e lb loc ts [] 0) (hK : KP τ loc mc post (stB lb loc f b ts))
    (hw : ∀ x, (wd f b 0 loc [x]).1 = (if most < x then 5 else 0) ∧ ((wd f b 0 loc [x]).1 = 0 → (wd f b 0 loc [x]).2 = b + k * x)) : f_R_bounded (fun r w => f_R_keep post w (g r)) v (nI most) := by
  have er : rd lb loc f ts = if (exE lb loc ts).1 = 0 then fiO 1 (exE lb loc ts).2.2 0 [vN (exE lb loc ts).2.1] else ((exE lb loc ts).1, 0, []) := by
    unfold rd
    rw [hmo, hle, rdO_n _ _ _ _ _ _ _ _ _ (fun z => had z.symm), rdM_0]
    rfl
  refine r_bnd hl h (by simp) hm (fun z w hw2 => ?_) (fun g eg q w hw2 => ?_)
  · rw [if_pos z] at er
    have := st_E (as := [(vN (exE lb loc ts).2.1, most)]) (o := 0) (b := b) (ts := ts) (f := f) (lb := lb) (loc := loc) (rest := (exE lb loc ts).2.2) (ind := 0) (vs := [vN (exE lb loc ts).2.1]) (wv := b + k * vN (exE lb loc ts).2.1) (by rw [hle]; exact er) (by rw [hle]; exact Nat.le_refl _) (by
        rw [vio1]
        have := (hw (vN (exE lb loc ts).2.1)).1
        rw [this]
        by_cases c : most < vN (exE lb loc ts).2.1
        · rw [if_pos c, if_pos c]; rfl
        · rw [if_neg c, if_neg c]; rfl) (hw _).2
    rw [hg]
    exact r_kp hw2 (by omega) (by simp) hK this.1 this.2
  · have gp := hw2.2.2.2.1
    rw [if_neg (by omega)] at er
    refine r_kpF hw2 hK (st_F (by rw [er]; exact eg.symm) (by omega))
end
