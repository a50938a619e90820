/-! the pure side: the reference's statements by their sorts -/
section
variable {τ v : SS} {T : Nat → Nat} {len e loc : Nat} {lb : Lb} {ts : List Tk} {as : As} {o : Nat}
theorem r_zero {b mc : Nat} {post : SS → Prop} (h : QL τ v T len e lb loc ts [] 0) (hK : KP τ loc mc post (stB lb loc 8 b ts)) : f_R_keep post v (nI b) := by
  have := st_E (as := []) (o := 0) (b := b) (ts := ts) (f := 8) (lb := lb) (loc := loc) (rest := ts) (ind := 0) (vs := []) (wv := b) rfl (Nat.le_refl _) rfl (fun _ => rfl)
  exact r_kp h (by omega) (by simp) hK this.1 this.2
theorem r_val {mc : Nat} {post : SS → Prop} (hl : loc < 65536) (h : QL τ v T len e lb loc ts [] 0) (hK : KP τ loc mc post (stB lb loc 10 0 ts)) : f_R_expression (fun r w => f_R_keep post w r) v := by
  obtain ⟨f0, hAt, hv, ⟨a1, a2⟩, ho⟩ := id h
  obtain ⟨v1, v2⟩ := vN_e (exE lb loc ts).2.1
  have er : rd lb loc 10 ts = if (exE lb loc ts).1 = 0 then fiO 1 (exE lb loc ts).2.2 0 [vN (exE lb loc ts).2.1] else ((exE lb loc ts).1, 0, []) := by
    unfold rd
    show rdO lb loc (adN 10) (leN 10) (0 + 1) 0 ts 0 [] = _
    rw [rdO_n _ _ _ _ _ _ _ _ _ (by decide), rdM_0]
    rfl
  refine r_expr hl hAt hv (fun z u f1 g1 => ?_) (fun f ef r u hr fl => ?_)
  · rw [if_pos z] at er
    have hu : QL τ u T len e lb loc (exE lb loc ts).2.2 [] 0 := ⟨f0.trans f1.frq, g1, hv.fr f1, ⟨by rw [f1.1 24 (by omega) (by omega) (by omega) (by omega) (by omega)]; exact a1, fun j hj => absurd hj (by simp)⟩, by rw [f1.1 25 (by omega) (by omega) (by omega) (by omega) (by omega)]; exact ho⟩
    have := st_E (as := []) (o := 0) (b := 0) (ts := ts) (f := 10) (lb := lb) (loc := loc) (rest := (exE lb loc ts).2.2) (ind := 0) (vs := [vN (exE lb loc ts).2.1]) (wv := vN (exE lb loc ts).2.1) er (Nat.le_refl _) rfl (fun _ => rfl)
    rw [v1]
    exact r_kp hu (by omega) (by simp) hK this.1 this.2
  · obtain ⟨⟨f1, fl2, fl3⟩, fl4, fl5⟩ := id fl
    have hq : QF τ u f 0 := ⟨f0.trans f1.frq, fl2, by rw [fl3, f0.s 15 (by omega)], fl4, fl5, by rw [f1.1 24 (by omega) (by omega) (by omega) (by omega) (by omega)]; exact a1⟩
    rw [if_neg (by omega)] at er
    exact r_kpF hq hK (st_F (by rw [er]; exact ef.symm) (by omega))
theorem nI_w {a : Nat} : (2048 : Int32) * nI a = nI (2048 * a) := by rw [q_lit, q_mul]
theorem nI_w8 {a : Nat} : (8192 : Int32) * nI a = nI (8192 * a) := by rw [q_lit, q_mul]
/-- an accumulator and a device -/
theorem r_tra {b mc : Nat} {post : SS → Prop} (hl : loc < 65536) (h : QL τ v T len e lb loc ts [] 0) (hK : KP τ loc mc post (stB lb loc 6 b ts)) : f_R_bounded (fun r_40 σ_39 => nm (nI b + (2048 * r_40)) fun x1_41 => f_R_comma (fun σ_42 => f_R_bounded (fun r_45 σ_44 => f_R_keep post σ_44 (x1_41 + r_45)) σ_42 63) σ_39) v 3 := by
  have er : rd lb loc 6 ts = if (exE lb loc ts).1 = 0 then rdM 2 (rdO lb loc (adN 6) 2 1) 1 0 (exE lb loc ts).2.2 0 [vN (exE lb loc ts).2.1] else ((exE lb loc ts).1, 0, []) := by
    unfold rd
    show rdO lb loc (adN 6) (leN 6) (1 + 1) 0 ts 0 [] = _
    rw [rdO_n _ _ _ _ _ _ _ _ _ (by decide)]
    rfl
  refine r_bnd (most := 3) hl h (by simp) (by omega) (fun z w hw => ?_) (fun g eg q w hw => ?_)
  · rw [if_pos z] at er
    simp only [nm]
    refine r_comma hw (fun t r et ec w2 hw2 => ?_) (fun t s r et ec es w2 hw2 => ?_) (fun y w2 hw2 => ?_)
    · rw [et, rdM_c ec, rdO_n _ _ _ _ _ _ _ _ _ (by decide), rdM_0] at er
      refine r_bnd (most := 63) hl hw2 (by simp) (by omega) (fun z2 w3 hw3 => ?_) (fun g eg q w3 hw3 => ?_)
      · rw [if_pos z2] at er
        have := st_E (as := [(vN (exE lb loc ts).2.1, 3), (vN (exE lb loc r).2.1, 63)]) (o := 0) (b := b) (ts := ts) (f := 6) (lb := lb) (loc := loc) (rest := (exE lb loc r).2.2) (ind := 0) (vs := [vN (exE lb loc ts).2.1, vN (exE lb loc r).2.1]) (wv := b + 2048 * vN (exE lb loc ts).2.1 + vN (exE lb loc r).2.1) er (Nat.le_refl _) (by
            rw [vio2]
            show (if 3 < vN (exE lb loc ts).2.1 ∨ 63 < vN (exE lb loc r).2.1 then ((5, 0) : Nat × Nat) else (0, _)).1 = _
            by_cases c : 3 < vN (exE lb loc ts).2.1
            · rw [if_pos (Or.inl c), if_pos c]; rfl
            · by_cases c2 : 63 < vN (exE lb loc r).2.1
              · rw [if_pos (Or.inr c2), if_neg c, if_pos c2]; rfl
              · rw [if_neg (by omega), if_neg c, if_neg c2]; rfl) (by
            show (if 3 < vN (exE lb loc ts).2.1 ∨ 63 < vN (exE lb loc r).2.1 then ((5, 0) : Nat × Nat) else (0, b + 2048 * vN (exE lb loc ts).2.1 + vN (exE lb loc r).2.1)).1 = 0 → (if 3 < vN (exE lb loc ts).2.1 ∨ 63 < vN (exE lb loc r).2.1 then ((5, 0) : Nat × Nat) else (0, b + 2048 * vN (exE lb loc ts).2.1 + vN (exE lb loc r).2.1)).2 = _
            by_cases c : 3 < vN (exE lb loc ts).2.1 ∨ 63 < vN (exE lb loc r).2.1
            · rw [if_pos c]; intro k; exact absurd (show (5 : Nat) = 0 from k) (by omega)
            · rw [if_neg c]; intro _; rfl)
        rw [nI_w, q_add, q_add]
        exact r_kp hw3 (by omega) (by simp) hK this.1 this.2
      · have gp := hw3.2.2.2.1
        rw [if_neg (by omega)] at er
        exact r_kpF hw3 hK (st_F (by rw [er]; exact eg.symm) (by omega))
    · rw [et, rdM_c ec, rdO_n _ _ _ _ _ _ _ _ _ (by decide), if_neg (by rw [exE_bad es]; omega), exE_bad es] at er
      exact r_bndF hw2 (by simp) (fun q w3 hw3 => r_kpF hw3 hK (st_F (by rw [er]) (by omega)))
    · rw [rdM_f y] at er
      refine r_bndF hw2 (by simp) (fun q w3 hw3 => r_kpF hw3 hK (st_F ?_ (by omega)))
      rw [er]
      unfold fiO
      rw [if_pos (Or.inl (by simp))]
  · have gp := hw.2.2.2.1
    rw [if_neg (by omega)] at er
    refine r_commaF hw (r_bndF hw (by simp) (fun q w3 hw3 => r_kpF hw3 hK (st_F (by rw [er]; exact eg.symm) (by omega))))
/-- two accumulators and a skip -/
theorem wd4g (b ind : Nat) (vs : List Nat) : wd 4 b ind loc vs = if 3 < vs.getD 0 0 ∨ 3 < vs.getD 1 0 ∨ (2 < vs.length ∧ 7 < vs.getD 2 0) then (5, 0) else (0, b + 8192 * vs.getD 0 0 + 2048 * vs.getD 1 0 + (if 2 < vs.length then vs.getD 2 0 else 0)) := rfl
theorem wd4 (b x y s : Nat) : wd 4 b 0 loc [x, y] = (if 3 < x ∨ 3 < y then (5, 0) else (0, b + 8192 * x + 2048 * y)) ∧ wd 4 b 0 loc [x, y, s] = (if 3 < x ∨ 3 < y ∨ 7 < s then (5, 0) else (0, b + 8192 * x + 2048 * y + s)) := by
  rw [wd4g, wd4g]
  constructor
  · rw [show ([x, y] : List Nat).getD 0 0 = x from rfl, show ([x, y] : List Nat).getD 1 0 = y from rfl, show ([x, y] : List Nat).getD 2 0 = 0 from rfl, show ([x, y] : List Nat).length = 2 from rfl]
    by_cases c : 3 < x ∨ 3 < y
    · rw [if_pos c, if_pos (show 3 < x ∨ 3 < y ∨ (2 < 2 ∧ 7 < 0) by omega)]
    · rw [if_neg c, if_neg (show ¬ (3 < x ∨ 3 < y ∨ (2 < 2 ∧ 7 < 0)) by omega)]; rfl
  · rw [show ([x, y, s] : List Nat).getD 0 0 = x from rfl, show ([x, y, s] : List Nat).getD 1 0 = y from rfl, show ([x, y, s] : List Nat).getD 2 0 = s from rfl, show ([x, y, s] : List Nat).length = 3 from rfl]
    by_cases c : 3 < x ∨ 3 < y ∨ 7 < s
    · rw [if_pos c, if_pos (show 3 < x ∨ 3 < y ∨ (2 < 3 ∧ 7 < s) by omega)]
    · rw [if_neg c, if_neg (show ¬ (3 < x ∨ 3 < y ∨ (2 < 3 ∧ 7 < s)) by omega)]; rfl
theorem r_ari {b mc : Nat} {post : SS → Prop} (hl : loc < 65536) (h : QL τ v T len e lb loc ts [] 0) (hK : KP τ loc mc post (stB lb loc 4 b ts)) : f_R_statement_99 (fun r w => f_R_keep post w r) v (nI b) := by
  have er : rd lb loc 4 ts = if (exE lb loc ts).1 = 0 then rdM 2 (rdO lb loc (adN 4) 2 2) 2 0 (exE lb loc ts).2.2 0 [vN (exE lb loc ts).2.1] else ((exE lb loc ts).1, 0, []) := by
    unfold rd
    show rdO lb loc (adN 4) (leN 4) (2 + 1) 0 ts 0 [] = _
    rw [rdO_n _ _ _ _ _ _ _ _ _ (by decide)]
    rfl
  have tailF : ∀ {f n : Nat} (w : SS) (x : Int32), n < 7 → QF τ w f n → (stB lb loc 4 b ts).1 = f → br ((w.1 13) = 0) (f_R_isSign (fun r_10 σ_9 => br (r_10 = 0) (f_R_keep post σ_9 x) (f_R_next (fun r_12 σ_11 => f_R_bounded (fun r_14 σ_13 => nm (x + r_14) fun x1_15 => f_R_keep post σ_13 x1_15) σ_11 7) σ_9)) w 44) (f_R_keep post w x) := fun w x hn hw e1 => b_f hw.ne (r_kpF hw hK e1)
  refine r_bnd (most := 3) hl h (by simp) (by omega) (fun z w hw => ?_) (fun g eg q w hw => ?_)
  · rw [if_pos z] at er
    simp only [nm]
    refine r_comma hw (fun t r et ec w2 hw2 => ?_) (fun t s r et ec es w2 hw2 => ?_) (fun y w2 hw2 => ?_)
    · rw [et, rdM_c ec, rdO_n _ _ _ _ _ _ _ _ _ (by decide)] at er
      refine r_bnd (most := 3) hl hw2 (by simp) (by omega) (fun z2 w3 hw3 => ?_) (fun g eg q w3 hw3 => ?_)
      · rw [if_pos z2] at er
        refine b_t hw3.2.1.1 (r_sign (c := 44) hw3.2.1 (by omega) (fun t2 r2 et2 ec2 _ => b_f (by decide) ?_) (fun y => b_t rfl ?_))
        · rw [et2, rdM_c ec2, rdO_n _ _ _ _ _ _ _ _ _ (by decide), rdM_0] at er
          rw [et2] at hw3
          refine r_nx hw3 (fun w4 hw4 => ?_) (fun s2 r2' er2 es2 w4 hw4 => ?_)
          · refine r_bnd (most := 7) hl hw4 (by simp) (by omega) (fun z3 w5 hw5 => ?_) (fun g eg q w5 hw5 => ?_)
            · rw [if_pos z3] at er
              have := st_E (as := [(vN (exE lb loc ts).2.1, 3), (vN (exE lb loc r).2.1, 3), (vN (exE lb loc r2).2.1, 7)]) (o := 0) (b := b) (ts := ts) (f := 4) (lb := lb) (loc := loc) (rest := (exE lb loc r2).2.2) (ind := 0) (vs := [vN (exE lb loc ts).2.1, vN (exE lb loc r).2.1, vN (exE lb loc r2).2.1]) (wv := b + 8192 * vN (exE lb loc ts).2.1 + 2048 * vN (exE lb loc r).2.1 + vN (exE lb loc r2).2.1) er (by show 2 ≤ 3; omega) (by
                rw [vio3, (wd4 b _ _ _).2]
                by_cases c : 3 < vN (exE lb loc ts).2.1
                · rw [if_pos (Or.inl c), if_pos c]; rfl
                · by_cases c2 : 3 < vN (exE lb loc r).2.1
                  · rw [if_pos (Or.inr (Or.inl c2)), if_neg c, if_pos c2]; rfl
                  · by_cases c3 : 7 < vN (exE lb loc r2).2.1
                    · rw [if_pos (Or.inr (Or.inr c3)), if_neg c, if_neg c2, if_pos c3]; rfl
                    · rw [if_neg (by omega), if_neg c, if_neg c2, if_neg c3]; rfl) (by
                rw [(wd4 b _ _ _).2]
                by_cases c : 3 < vN (exE lb loc ts).2.1 ∨ 3 < vN (exE lb loc r).2.1 ∨ 7 < vN (exE lb loc r2).2.1
                · rw [if_pos c]; intro k; exact absurd (show (5 : Nat) = 0 from k) (by omega)
                · rw [if_neg c]; intro _; rfl)
              rw [nI_w, nI_w8, q_add, q_add, q_add]
              exact r_kp hw5 (by omega) (by simp) hK this.1 this.2
            · have gp := hw5.2.2.2.1
              rw [if_neg (by omega)] at er
              exact r_kpF hw5 hK (st_F (by rw [er]; exact eg.symm) (by omega))
          · rw [er2, if_neg (by rw [exE_bad es2]; omega), exE_bad es2] at er
            exact r_bndF hw4 (by simp) (fun q w5 hw5 => r_kpF hw5 hK (st_F (by rw [er]) (by omega)))
        · have y' : (exE lb loc r).2.2 = [] ∨ ∃ t r', (exE lb loc r).2.2 = t :: r' ∧ t.1 ≠ 44 := by
            rcases y with y | ⟨t', r', er', y⟩
            · exact Or.inl y
            · rcases y with y | y
              · exact Or.inr ⟨t', r', er', y⟩
              · exact absurd (by unfold sgn; omega) y
          rw [rdM_f y'] at er
          have := st_E (as := [(vN (exE lb loc ts).2.1, 3), (vN (exE lb loc r).2.1, 3)]) (o := 0) (b := b) (ts := ts) (f := 4) (lb := lb) (loc := loc) (rest := (exE lb loc r).2.2) (ind := 0) (vs := [vN (exE lb loc ts).2.1, vN (exE lb loc r).2.1]) (wv := b + 8192 * vN (exE lb loc ts).2.1 + 2048 * vN (exE lb loc r).2.1) er (Nat.le_refl _) (by
            rw [vio2, (wd4 b _ _ 0).1]
            by_cases c : 3 < vN (exE lb loc ts).2.1
            · rw [if_pos (Or.inl c), if_pos c]; rfl
            · by_cases c2 : 3 < vN (exE lb loc r).2.1
              · rw [if_pos (Or.inr c2), if_neg c, if_pos c2]; rfl
              · rw [if_neg (by omega), if_neg c, if_neg c2]; rfl) (by
            rw [(wd4 b _ _ 0).1]
            by_cases c : 3 < vN (exE lb loc ts).2.1 ∨ 3 < vN (exE lb loc r).2.1
            · rw [if_pos c]; intro k; exact absurd (show (5 : Nat) = 0 from k) (by omega)
            · rw [if_neg c]; intro _; rfl)
          rw [nI_w, nI_w8, q_add, q_add]
          exact r_kp hw3 (by omega) (by simp) hK this.1 this.2
      · have gp := hw3.2.2.2.1
        rw [if_neg (by omega)] at er
        exact tailF w3 _ (by simp) hw3 (st_F (by rw [er]; exact eg.symm) (by omega))
    · rw [et, rdM_c ec, rdO_n _ _ _ _ _ _ _ _ _ (by decide), if_neg (by rw [exE_bad es]; omega), exE_bad es] at er
      exact r_bndF hw2 (by simp) (fun q w3 hw3 => tailF w3 _ (by simp) hw3 (st_F (by rw [er]) (by omega)))
    · rw [rdM_f y] at er
      refine r_bndF hw2 (by simp) (fun q w3 hw3 => tailF w3 _ (by simp) hw3 (st_F ?_ (by omega)))
      rw [er]
      unfold fiO
      rw [if_pos (Or.inl (by simp))]
  · have gp := hw.2.2.2.1
    rw [if_neg (by omega)] at er
    refine r_commaF hw (r_bndF hw (by simp) (fun q w3 hw3 => tailF w3 _ (by simp) hw3 (st_F (by rw [er]; exact eg.symm) (by omega))))
end
