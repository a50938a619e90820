/-! the pure side: the reference's statements with addresses; all sorts -/
section
variable {τ v : SS} {T : Nat → Nat} {len e loc : Nat} {lb : Lb} {ts : List Tk} {as : As} {o : Nat}
theorem vio_01 (as : As) : vio as = 0 ∨ vio as = 1 := by
  induction as with
  | nil => exact Or.inl rfl
  | cons p r ih =>
    unfold vio
    split
    · exact Or.inr rfl
    · exact ih
theorem vio_app (as : As) (a m : Nat) : vio (as ++ [(a, m)]) = if vio as = 1 then 1 else if m < a then 1 else 0 := by
  induction as with
  | nil => rfl
  | cons p r ih =>
    show (if p.2 < p.1 then 1 else vio (r ++ [(a, m)])) = if (if p.2 < p.1 then 1 else vio r) = 1 then 1 else _
    by_cases c : p.2 < p.1
    · rw [if_pos c, if_pos c, if_pos rfl]
    · rw [if_neg c, if_neg c]; exact ih
theorem adW0 (ind x : Nat) : adW ind loc x 0 0 = if x < 256 then (0, 1024 * ind + x) else if loc ≤ x + 128 ∧ x ≤ loc + 127 then (0, 1024 * ind + 256 + (x + 65536 - loc) % 256) else (6, 0) := rfl
theorem adW1 (ind x m : Nat) : adW ind loc x 1 m = if 3 < m then (5, 0) else if (m = 0 ∧ x ≤ 255) ∨ (m ≠ 0 ∧ (x ≤ 127 ∨ 65408 ≤ x)) then (0, 1024 * ind + 256 * m + x % 256) else (6, 0) := rfl
theorem r_adr {f b b' mc : Nat} {ts0 : List Tk} {vs : List Nat} {post : SS → Prop} (hl : loc ≤ 32768) (h : QL τ v T len e lb loc ts as 0) (hn : as.length < 6) (hvs : leN f ≤ vs.length + 1) (hK : KP τ loc mc post (stB lb loc f b ts0))
    (er : rd lb loc f ts0 = rdO lb loc (adN f) (leN f) 2 (adN f) ts 0 vs)
    (hA : ∀ ind x, (vio as = 1 → (wd f b ind loc (vs ++ [x])).1 = 5) ∧ (vio as ≠ 1 → wd f b ind loc (vs ++ [x]) = ((adW ind loc x 0 0).1, b' + (adW ind loc x 0 0).2)))
    (hB : ∀ ind x m, (vio as = 1 → (wd f b ind loc (vs ++ [x] ++ [m])).1 = 5) ∧ (vio as ≠ 1 → wd f b ind loc (vs ++ [x] ++ [m]) = ((adW ind loc x 1 m).1, b' + (adW ind loc x 1 m).2))) : f_R_address (fun r w => f_R_keep post w (nI b' + r)) v := by
  have main : ∀ (ind : Nat) (ts1 : List Tk) (w : SS), QL τ w T len e lb loc ts1 as 0 → (rd lb loc f ts0 = if (exE lb loc ts1).1 = 0 then rdM (leN f) (rdO lb loc (adN f) (leN f) 1) 1 (adN f) (exE lb loc ts1).2.2 ind (vs ++ [vN (exE lb loc ts1).2.1]) else ((exE lb loc ts1).1, 0, vs)) → f_R_address_20 (fun r w => f_R_keep post w (nI b' + r)) w (nI (1024 * ind)) := by
    intro ind ts1 w hw er
    refine r_20 hl hw hn (fun z y w2 hw2 => ?_) (fun z t r et ec z2 w2 hw2 => ?_) (fun g hg q w2 n hn2 hw2 => ?_)
    · rw [if_pos z, rdM_f y] at er
      have hA := hA ind (vN (exE lb loc ts1).2.1)
      rw [q_add]
      refine r_kp hw2 (by (repeat' split) <;> omega) (by omega) hK ?_ ?_
      · refine (st_E (as := as) (wv := (wd f b ind loc (vs ++ [vN (exE lb loc ts1).2.1])).2) er (by rw [List.length_append, List.length_singleton]; exact hvs) ?_ (fun _ => rfl)).1
        by_cases c : vio as = 1
        · rw [if_pos c]; exact hA.1 c
        · rw [if_neg c, hA.2 c, adW0]
          by_cases c1 : vN (exE lb loc ts1).2.1 < 256
          · rw [if_pos c1, if_pos c1, if_neg (by omega)]
          · rw [if_neg c1, if_neg c1]
            by_cases c2 : loc ≤ vN (exE lb loc ts1).2.1 + 128 ∧ vN (exE lb loc ts1).2.1 ≤ loc + 127
            · rw [if_pos c2, if_pos c2, if_neg (by omega)]
            · rw [if_neg c2, if_neg c2, if_pos rfl]
      · intro k
        have e5 : stB lb loc f b ts0 = wd f b ind loc (vs ++ [vN (exE lb loc ts1).2.1]) := by
          unfold stB at k ⊢
          rw [er] at k ⊢
          unfold fiO at k ⊢
          by_cases c : (vs ++ [vN (exE lb loc ts1).2.1]).length < leN f ∨ (exE lb loc ts1).2.2 ≠ []
          · rw [if_pos c] at k; exact absurd (show (2 : Nat) = 0 from k) (by omega)
          · rw [if_neg c, if_pos rfl]
        rw [e5] at k ⊢
        by_cases c : vio as = 1
        · rw [hA.1 c] at k; omega
        · rw [hA.2 c, adW0] at k ⊢
          by_cases c1 : vN (exE lb loc ts1).2.1 < 256
          · rw [if_pos c1, if_pos c1]
          · rw [if_neg c1] at k
            rw [if_neg c1, if_neg c1]
            by_cases c2 : loc ≤ vN (exE lb loc ts1).2.1 + 128 ∧ vN (exE lb loc ts1).2.1 ≤ loc + 127
            · rw [if_pos c2]
            · rw [if_neg c2] at k; exact absurd (show (6 : Nat) = 0 from k) (by omega)
    · rw [if_pos z, et, rdM_c ec, rdO_n _ _ _ _ _ _ _ _ _ (by omega), if_pos z2, rdM_0] at er
      have hB := hB ind (vN (exE lb loc ts1).2.1) (vN (exE lb loc r).2.1)
      rw [q_add]
      refine r_kp hw2 (by split <;> omega) (by rw [List.length_append, List.length_singleton]; omega) hK ?_ ?_
      · refine (st_E (as := as ++ [(vN (exE lb loc r).2.1, 3)]) (wv := (wd f b ind loc (vs ++ [vN (exE lb loc ts1).2.1] ++ [vN (exE lb loc r).2.1])).2) er (by rw [List.length_append, List.length_append, List.length_singleton, List.length_singleton]; omega) ?_ (fun _ => rfl)).1
        rw [vio_app]
        by_cases c : vio as = 1
        · rw [if_pos c, if_pos rfl]; exact hB.1 c
        · rw [if_neg c, hB.2 c, adW1]
          by_cases c1 : 3 < vN (exE lb loc r).2.1
          · rw [if_pos c1, if_pos c1, if_pos rfl]
          · rw [if_neg c1, if_neg c1, if_neg (show ¬ (0 : Nat) = 1 by omega)]
            by_cases c2 : (vN (exE lb loc r).2.1 = 0 ∧ vN (exE lb loc ts1).2.1 ≤ 255) ∨ (vN (exE lb loc r).2.1 ≠ 0 ∧ (vN (exE lb loc ts1).2.1 ≤ 127 ∨ 65408 ≤ vN (exE lb loc ts1).2.1))
            · rw [if_pos c2, if_pos c2, if_neg (by omega)]
            · rw [if_neg c2, if_neg c2, if_pos rfl]
      · intro k
        have e5 : stB lb loc f b ts0 = wd f b ind loc (vs ++ [vN (exE lb loc ts1).2.1] ++ [vN (exE lb loc r).2.1]) := by
          unfold stB at k ⊢
          rw [er] at k ⊢
          unfold fiO at k ⊢
          by_cases c : (vs ++ [vN (exE lb loc ts1).2.1] ++ [vN (exE lb loc r).2.1]).length < leN f ∨ (exE lb loc r).2.2 ≠ []
          · rw [if_pos c] at k; exact absurd (show (2 : Nat) = 0 from k) (by omega)
          · rw [if_neg c, if_pos rfl]
        rw [e5] at k ⊢
        by_cases c : vio as = 1
        · rw [hB.1 c] at k; omega
        · rw [hB.2 c, adW1] at k ⊢
          by_cases c1 : 3 < vN (exE lb loc r).2.1
          · rw [if_pos c1] at k; exact absurd (show (5 : Nat) = 0 from k) (by omega)
          · rw [if_neg c1] at k ⊢
            by_cases c2 : (vN (exE lb loc r).2.1 = 0 ∧ vN (exE lb loc ts1).2.1 ≤ 255) ∨ (vN (exE lb loc r).2.1 ≠ 0 ∧ (vN (exE lb loc ts1).2.1 ≤ 127 ∨ 65408 ≤ vN (exE lb loc ts1).2.1))
            · rw [if_pos c2, Nat.mod_eq_of_lt (show vN (exE lb loc r).2.1 < 4 by omega)]
            · rw [if_neg c2] at k; exact absurd (show (6 : Nat) = 0 from k) (by omega)
    · have gp := hw2.2.2.2.1
      refine r_kpF hw2 hK (st_F ?_ (by omega))
      rcases hg with hg | ⟨z, t, r, et, ec, hg⟩
      · rw [if_neg (by omega)] at er
        rw [er]; exact hg
      · rw [if_pos z, et, rdM_c ec, rdO_n _ _ _ _ _ _ _ _ _ (by omega), if_neg (by omega)] at er
        rw [er]; exact hg
  rw [rdO_s, if_pos rfl] at er
  refine r_sign (c := 64) h.2.1 (by omega) (fun t r et ec _ => b_f (by decide) ?_) (fun y => b_t rfl ?_)
  · rw [et, opE_1 ⟨rfl, ec⟩] at er
    rw [et] at h
    refine r_nx h (fun w hw => main 1 r w hw er) (fun s r' er' es w hw => ?_)
    refine r_20F hw (fun q w2 hw2 => r_kpF hw2 hK (st_F ?_ (by omega)))
    rw [er' ] at er
    have eb : (exE lb loc (s :: r')).1 = 1 := exE_bad es
    rw [if_neg (by rw [eb]; omega)] at er
    rw [er]; exact eb
  · rw [opE_0] at er
    · exact main 0 ts v h er
    · intro t r et k
      rcases y with y | ⟨t', r', er', y⟩
      · rw [et] at y; cases y
      · rw [et] at er'
        cases er'
        rcases y with y | y
        · exact y k.2
        · exact absurd (by unfold sgn; omega) y
theorem wd2g (b ind : Nat) (vs : List Nat) : wd 2 b ind loc vs = ((adW ind loc (vs.getD 0 0) (vs.length - 1) (vs.getD 1 0)).1, b + (adW ind loc (vs.getD 0 0) (vs.length - 1) (vs.getD 1 0)).2) := rfl
theorem wd3g (b ind : Nat) (vs : List Nat) : wd 3 b ind loc vs = if 3 < vs.getD 0 0 then (5, 0) else ((adW ind loc (vs.getD 1 0) (vs.length - 2) (vs.getD 2 0)).1, b + 2048 * vs.getD 0 0 + (adW ind loc (vs.getD 1 0) (vs.length - 2) (vs.getD 2 0)).2) := rfl
theorem r_jmp {b mc : Nat} {post : SS → Prop} (hl : loc ≤ 32768) (h : QL τ v T len e lb loc ts [] 0) (hK : KP τ loc mc post (stB lb loc 2 b ts)) : f_R_address (fun r w => f_R_keep post w (nI b + r)) v := by
  refine r_adr (as := []) (vs := []) (b' := b) hl h (by simp) (by decide) hK rfl (fun ind x => ⟨fun z => absurd z (by decide), fun _ => rfl⟩) (fun ind x m => ⟨fun z => absurd z (by decide), fun _ => rfl⟩)
theorem r_mvw {b mc : Nat} {post : SS → Prop} (hl : loc ≤ 32768) (h : QL τ v T len e lb loc ts [] 0) (hK : KP τ loc mc post (stB lb loc 3 b ts)) : f_R_bounded (fun r_23 σ_22 => nm (nI b + (2048 * r_23)) fun x1_24 => f_R_comma (fun σ_25 => f_R_address (fun r_28 σ_27 => f_R_keep post σ_27 (x1_24 + r_28)) σ_25) σ_22) v 3 := by
  have er : rd lb loc 3 ts = if (exE lb loc ts).1 = 0 then rdM 2 (rdO lb loc (adN 3) 2 2) 2 0 (exE lb loc ts).2.2 0 [vN (exE lb loc ts).2.1] else ((exE lb loc ts).1, 0, []) := by
    unfold rd
    show rdO lb loc (adN 3) (leN 3) (2 + 1) 0 ts 0 [] = _
    rw [rdO_n _ _ _ _ _ _ _ _ _ (by decide)]
    rfl
  refine r_bnd (most := 3) (by omega) h (by simp) (by omega) (fun z w hw => ?_) (fun g eg q w hw => ?_)
  · rw [if_pos z] at er
    simp only [nm]
    rw [nI_w, q_add]
    refine r_comma hw (fun t r et ec w2 hw2 => ?_) (fun t s r et ec es w2 hw2 => ?_) (fun y w2 hw2 => ?_)
    · rw [et, rdM_c ec] at er
      refine r_adr (vs := [vN (exE lb loc ts).2.1]) hl hw2 (by simp) (Nat.le_refl _) hK er (fun ind x => ?_) (fun ind x m => ?_)
      · rw [show ([] ++ [(vN (exE lb loc ts).2.1, 3)] : As) = [(vN (exE lb loc ts).2.1, 3)] from rfl, vio1, wd3g]
        rw [show ([vN (exE lb loc ts).2.1] ++ [x] : List Nat).getD 0 0 = vN (exE lb loc ts).2.1 from rfl]
        refine ⟨fun k => ?_, fun k => ?_⟩
        · by_cases c : 3 < vN (exE lb loc ts).2.1
          · rw [if_pos c]
          · rw [if_neg c] at k; omega
        · by_cases c : 3 < vN (exE lb loc ts).2.1
          · rw [if_pos c] at k; exact absurd rfl k
          · rw [if_neg c]; rfl
      · rw [show ([] ++ [(vN (exE lb loc ts).2.1, 3)] : As) = [(vN (exE lb loc ts).2.1, 3)] from rfl, vio1, wd3g]
        rw [show ([vN (exE lb loc ts).2.1] ++ [x] ++ [m] : List Nat).getD 0 0 = vN (exE lb loc ts).2.1 from rfl]
        refine ⟨fun k => ?_, fun k => ?_⟩
        · by_cases c : 3 < vN (exE lb loc ts).2.1
          · rw [if_pos c]
          · rw [if_neg c] at k; omega
        · by_cases c : 3 < vN (exE lb loc ts).2.1
          · rw [if_pos c] at k; exact absurd rfl k
          · rw [if_neg c]; rfl
    · rw [et, rdM_c ec, rdO_s, opE_0 (fun t' r' e' k => by cases e'; omega), if_neg (by show ¬ (exE lb loc (s :: r)).1 = 0; rw [exE_bad es]; omega)] at er
      exact r_adrF hw2 (fun q w3 hw3 => r_kpF hw3 hK (st_F (by rw [er]; exact exE_bad es) (by omega)))
    · rw [rdM_f y] at er
      refine r_adrF hw2 (fun q w3 hw3 => r_kpF hw3 hK (st_F ?_ (by omega)))
      rw [er]
      unfold fiO
      rw [if_pos (Or.inl (by simp))]
  · have gp := hw.2.2.2.1
    rw [if_neg (by omega)] at er
    refine r_commaF hw (r_adrF hw (fun q w3 hw3 => r_kpF hw3 hK (st_F (by rw [er]; exact eg.symm) (by omega))))
theorem sr_f : ∀ t, t < 34 → 2 ≤ t → (srN t = 3 ∧ fmN t = 2) ∨ (srN t = 4 ∧ fmN t = 3) ∨ (srN t = 5 ∧ fmN t = 4) ∨ (srN t = 6 ∧ (fmN t = 5 ∨ fmN t = 7)) ∨ (srN t = 7 ∧ fmN t = 6) ∨ (srN t = 8 ∧ fmN t = 8) ∨ (srN t = 9 ∧ fmN t = 9) := by decide +kernel
/-- a statement of the reference's -/
theorem r_stm {t b mc : Nat} {post : SS → Prop} (ht : t < 34) (ht2 : 2 ≤ t) (hl : loc ≤ 32768) (h26 : v.1 26 = nI (srN t)) (h27 : v.1 27 = nI b) (h : QL τ v T len e lb loc ts [] 0) (hK : KP τ loc mc post (stG lb loc (fmN t) b ts)) : f_R_statement (fun r w => f_R_keep post w r) v := by
  unfold stG at hK
  simp only [f_R_statement, nm]
  rw [h26, h27]
  rcases sr_f t ht ht2 with ⟨s, f⟩ | ⟨s, f⟩ | ⟨s, f⟩ | ⟨s, f⟩ | ⟨s, f⟩ | ⟨s, f⟩ | ⟨s, f⟩
  · rw [f, hsh_0 (fun _ _ _ k => absurd k.1 (by decide)), Nat.add_zero] at hK
    rw [s]
    exact b_t rfl (r_jmp hl h hK)
  · rw [f, hsh_0 (fun _ _ _ k => absurd k.1 (by decide)), Nat.add_zero] at hK
    rw [s]
    exact b_f (by decide) (b_t rfl (r_mvw hl h hK))
  · rw [f] at hK
    rw [s]
    refine b_f (by decide) (b_f (by decide) (b_t rfl (r_sign (c := 35) h.2.1 (by omega) (fun t' r et ec _ => b_f (by decide) ?_) (fun y => b_t rfl ?_))))
    · rw [et, hsh_1 ⟨rfl, ec⟩] at hK
      rw [et] at h
      rw [show nI b + 8 = nI (b + 8) from q_add b 8]
      refine r_nx h (fun w hw => r_ari (by omega) hw hK) (fun s' r' er es w hw => ?_)
      have fin : ∀ {n : Nat} (w : SS) (x : Int32), QF τ w 1 n → f_R_keep post w x := by
        intro n w x hw
        refine r_kpF hw hK (st_F ?_ (by omega))
        rw [er]
        unfold rd
        show (rdO lb loc (adN 4) (leN 4) (2 + 1) 0 (s' :: r') 0 []).1 = 1
        rw [rdO_n _ _ _ _ _ _ _ _ _ (by decide), if_neg (by rw [exE_bad es]; omega)]
        exact exE_bad es
      refine r_bndF hw (by simp) (fun q w2 hw2 => ?_)
      simp only [nm]
      exact r_commaF hw2 (r_bndF hw2 (by simp) (fun q w3 hw3 => b_f hw3.ne (fin w3 _ hw3)))
    · rw [hsh_0, Nat.add_zero] at hK
      · exact r_ari (by omega) h hK
      · intro t' r' et k
        rcases y with y | ⟨t'', r'', er', y⟩
        · rw [et] at y; cases y
        · rw [et] at er'
          cases er'
          rcases y with y | y
          · exact y k.2
          · exact absurd (by unfold sgn; omega) y
  · rw [hsh_0 (fun _ _ _ k => by omega), Nat.add_zero] at hK
    rw [s]
    refine b_f (by decide) (b_f (by decide) (b_f (by decide) (b_t rfl ?_)))
    rcases f with f | f
    · rw [f] at hK
      refine r_one (k := 1) (most := 63) (g := fun r => nI b + r) (fun x => by rw [q_add, Nat.one_mul]) (by omega) rfl rfl (by decide) (by omega) h hK (fun x => ?_)
      rw [show wd 5 b 0 loc [x] = if 63 < x then (5, 0) else (0, b + x) from rfl]
      by_cases c : 63 < x
      · rw [if_pos c, if_pos c]; exact ⟨rfl, fun k => absurd (show (5 : Nat) = 0 from k) (by omega)⟩
      · rw [if_neg c, if_neg c]; exact ⟨rfl, fun _ => by omega⟩
    · rw [f] at hK
      refine r_one (k := 1) (most := 63) (g := fun r => nI b + r) (fun x => by rw [q_add, Nat.one_mul]) (by omega) rfl rfl (by decide) (by omega) h hK (fun x => ?_)
      rw [show wd 7 b 0 loc [x] = if 63 < x then (5, 0) else (0, b + x) from rfl]
      by_cases c : 63 < x
      · rw [if_pos c, if_pos c]; exact ⟨rfl, fun k => absurd (show (5 : Nat) = 0 from k) (by omega)⟩
      · rw [if_neg c, if_neg c]; exact ⟨rfl, fun _ => by omega⟩
  · rw [f, hsh_0 (fun _ _ _ k => absurd k.1 (by decide)), Nat.add_zero] at hK
    rw [s]
    exact b_f (by decide) (b_f (by decide) (b_f (by decide) (b_f (by decide) (b_t rfl (r_tra (by omega) h hK)))))
  · rw [f, hsh_0 (fun _ _ _ k => absurd k.1 (by decide)), Nat.add_zero] at hK
    rw [s]
    exact b_f (by decide) (b_f (by decide) (b_f (by decide) (b_f (by decide) (b_f (by decide) (b_t rfl (r_zero h hK))))))
  · rw [f, hsh_0 (fun _ _ _ k => absurd k.1 (by decide)), Nat.add_zero] at hK
    rw [s]
    refine b_f (by decide) (b_f (by decide) (b_f (by decide) (b_f (by decide) (b_f (by decide) (b_f (by decide) (b_t rfl ?_))))))
    refine r_one (k := 2048) (most := 3) (g := fun r => nI b + 2048 * r) (fun x => by rw [nI_w, q_add]) (by omega) rfl rfl (by decide) (by omega) h hK (fun x => ?_)
    rw [show wd 9 b 0 loc [x] = if 3 < x then (5, 0) else (0, b + 2048 * x) from rfl]
    by_cases c : 3 < x
    · rw [if_pos c, if_pos c]; exact ⟨rfl, fun k => absurd (show (5 : Nat) = 0 from k) (by omega)⟩
    · rw [if_neg c, if_neg c]; exact ⟨rfl, fun _ => rfl⟩
end
