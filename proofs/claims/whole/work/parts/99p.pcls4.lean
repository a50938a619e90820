/-! the pure side: statements by their names, both sides -/
def Cls (cs : List Nat) (t : Nat) : Prop := t < 35 ∧ (∀ i, i < t → fbN i cs = 4294967295) ∧ (fbN t cs ≠ 4294967295 ∨ t = 34) ∧ ∀ (τ : SS) (post : SS → Prop), post (sS τ (srN t) (bsN t cs)) → f_R_classify post τ (jI (nameR 0 cs))
theorem cl_16 : Cls (tx 16) 0 := by
  have e : bsN 0 (tx 16) = 0 := by decide +kernel
  refine ⟨by omega, by decide +kernel, Or.inl (by decide +kernel), fun τ post hp => ?_⟩
  rw [e] at hp
  exact k_16 hp
theorem cl_17 : Cls (tx 17) 1 := by
  have e : bsN 1 (tx 17) = 0 := by decide +kernel
  refine ⟨by omega, by decide +kernel, Or.inl (by decide +kernel), fun τ post hp => ?_⟩
  rw [e] at hp
  exact k_17 hp
theorem cl_18 : Cls (tx 18) 2 := by
  have e : bsN 2 (tx 18) = 0 := by decide +kernel
  refine ⟨by omega, by decide +kernel, Or.inl (by decide +kernel), fun τ post hp => ?_⟩
  rw [e] at hp
  exact k_18 hp
theorem cl_19 : Cls (tx 19) 3 := by
  have e : bsN 3 (tx 19) = 2048 := by decide +kernel
  refine ⟨by omega, by decide +kernel, Or.inl (by decide +kernel), fun τ post hp => ?_⟩
  rw [e] at hp
  exact k_19 hp
theorem cl_20 : Cls (tx 20) 4 := by
  have e : bsN 4 (tx 20) = 4096 := by decide +kernel
  refine ⟨by omega, by decide +kernel, Or.inl (by decide +kernel), fun τ post hp => ?_⟩
  rw [e] at hp
  exact k_20 hp
theorem cl_21 : Cls (tx 21) 5 := by
  have e : bsN 5 (tx 21) = 6144 := by decide +kernel
  refine ⟨by omega, by decide +kernel, Or.inl (by decide +kernel), fun τ post hp => ?_⟩
  rw [e] at hp
  exact k_21 hp
theorem cl_22 : Cls (tx 22) 6 := by
  have e : bsN 6 (tx 22) = 8192 := by decide +kernel
  refine ⟨by omega, by decide +kernel, Or.inl (by decide +kernel), fun τ post hp => ?_⟩
  rw [e] at hp
  exact k_22 hp
theorem cl_23 : Cls (tx 23) 7 := by
  have e : bsN 7 (tx 23) = 16384 := by decide +kernel
  refine ⟨by omega, by decide +kernel, Or.inl (by decide +kernel), fun τ post hp => ?_⟩
  rw [e] at hp
  exact k_23 hp
theorem cl_32 : Cls (tx 32) 16 := by
  have e : bsN 16 (tx 32) = 24703 := by decide +kernel
  refine ⟨by omega, by decide +kernel, Or.inl (by decide +kernel), fun τ post hp => ?_⟩
  rw [e] at hp
  exact k_32 hp
theorem cl_33 : Cls (tx 33) 17 := by
  have e : bsN 17 (tx 33) = 24767 := by decide +kernel
  refine ⟨by omega, by decide +kernel, Or.inl (by decide +kernel), fun τ post hp => ?_⟩
  rw [e] at hp
  exact k_33 hp
theorem cl_34 : Cls (tx 34) 18 := by
  have e : bsN 18 (tx 34) = 26175 := by decide +kernel
  refine ⟨by omega, by decide +kernel, Or.inl (by decide +kernel), fun τ post hp => ?_⟩
  rw [e] at hp
  exact k_34 hp
theorem cl_35 : Cls (tx 35) 19 := by
  have e : bsN 19 (tx 35) = 25919 := by decide +kernel
  refine ⟨by omega, by decide +kernel, Or.inl (by decide +kernel), fun τ post hp => ?_⟩
  rw [e] at hp
  exact k_35 hp
theorem cl_36 : Cls (tx 36) 20 := by
  have e : bsN 20 (tx 36) = 24895 := by decide +kernel
  refine ⟨by omega, by decide +kernel, Or.inl (by decide +kernel), fun τ post hp => ?_⟩
  rw [e] at hp
  exact k_36 hp
theorem cl_37 : Cls (tx 37) 21 := by
  have e : bsN 21 (tx 37) = 25407 := by decide +kernel
  refine ⟨by omega, by decide +kernel, Or.inl (by decide +kernel), fun τ post hp => ?_⟩
  rw [e] at hp
  exact k_37 hp
theorem cl_38 : Cls (tx 38) 22 := by
  have e : bsN 22 (tx 38) = 25663 := by decide +kernel
  refine ⟨by omega, by decide +kernel, Or.inl (by decide +kernel), fun τ post hp => ?_⟩
  rw [e] at hp
  exact k_38 hp
theorem cl_46 : Cls (tx 46) 30 := by
  have e : bsN 30 (tx 46) = 26368 := by decide +kernel
  refine ⟨by omega, by decide +kernel, Or.inl (by decide +kernel), fun τ post hp => ?_⟩
  rw [e] at hp
  exact k_46 hp
theorem cl_47 : Cls (tx 47) 31 := by
  have e : bsN 31 (tx 47) = 26432 := by decide +kernel
  refine ⟨by omega, by decide +kernel, Or.inl (by decide +kernel), fun τ post hp => ?_⟩
  rw [e] at hp
  exact k_47 hp
theorem cl_48 : Cls (tx 48) 32 := by
  have e : bsN 32 (tx 48) = 26496 := by decide +kernel
  refine ⟨by omega, by decide +kernel, Or.inl (by decide +kernel), fun τ post hp => ?_⟩
  rw [e] at hp
  exact k_48 hp
theorem cl_49 : Cls (tx 49) 33 := by
  have e : bsN 33 (tx 49) = 26560 := by decide +kernel
  refine ⟨by omega, by decide +kernel, Or.inl (by decide +kernel), fun τ post hp => ?_⟩
  rw [e] at hp
  exact k_49 hp
theorem tx_inj : ∀ a, a < 50 → 5 ≤ a → ∀ b, b < 50 → 5 ≤ b → tx a = tx b → a = b := by decide +kernel
theorem fnN_eq {l : List Nat} (h : fnN l ≠ 4294967295) : l = tx (24 + fnN l) := by
  unfold fnN at h ⊢
  by_cases c0 : l = tx 24
  · rw [if_pos c0]; exact c0
  rw [if_neg c0] at h ⊢
  by_cases c1 : l = tx 25
  · rw [if_pos c1]; exact c1
  rw [if_neg c1] at h ⊢
  by_cases c2 : l = tx 26
  · rw [if_pos c2]; exact c2
  rw [if_neg c2] at h ⊢
  by_cases c3 : l = tx 27
  · rw [if_pos c3]; exact c3
  rw [if_neg c3] at h ⊢
  by_cases c4 : l = tx 28
  · rw [if_pos c4]; exact c4
  rw [if_neg c4] at h ⊢
  by_cases c5 : l = tx 29
  · rw [if_pos c5]; exact c5
  rw [if_neg c5] at h ⊢
  by_cases c6 : l = tx 30
  · rw [if_pos c6]; exact c6
  rw [if_neg c6] at h ⊢
  by_cases c7 : l = tx 31
  · rw [if_pos c7]; exact c7
  · rw [if_neg c7] at h; exact absurd rfl h
theorem fnN_tx : ∀ f, f < 8 → fnN (tx (24 + f)) = f := by decide +kernel
theorem whN_eq {l : List Nat} (h : whN l ≠ 4294967295) : l = tx (39 + whN l) := by
  unfold whN at h ⊢
  by_cases c0 : l = tx 40
  · rw [if_pos c0]; exact c0
  rw [if_neg c0] at h ⊢
  by_cases c1 : l = tx 41
  · rw [if_pos c1]; exact c1
  rw [if_neg c1] at h ⊢
  by_cases c2 : l = tx 42
  · rw [if_pos c2]; exact c2
  rw [if_neg c2] at h ⊢
  by_cases c3 : l = tx 43
  · rw [if_pos c3]; exact c3
  rw [if_neg c3] at h ⊢
  by_cases c4 : l = tx 44
  · rw [if_pos c4]; exact c4
  rw [if_neg c4] at h ⊢
  by_cases c5 : l = tx 45
  · rw [if_pos c5]; exact c5
  · rw [if_neg c5] at h; exact absurd rfl h
theorem whN_tx : ∀ w, w < 7 → 0 < w → whN (tx (39 + w)) = w := by decide +kernel
theorem fmz4 : ∀ i, i < 35 → fmN i = 4 → 8 ≤ i ∧ i < 16 ∧ ltN i = 16 + i := by decide +kernel
theorem fmz5 : ∀ i, i < 35 → (fmN i = 5 ∨ fmN i = 6) → 23 ≤ i ∧ i < 30 ∧ ltN i = 16 + i := by decide +kernel
theorem fmA : ∀ f, f < 8 → fmN (8 + f) = 4 ∧ ltN (8 + f) = 24 + f ∧ srN (8 + f) = 5 ∧ bitN (8 + f) = 32768 + 256 * f := by decide +kernel
theorem fmI : ∀ w, w < 7 → (fmN (23 + w) = 5 ∨ fmN (23 + w) = 6) ∧ fmN (23 + w) ≠ 4 ∧ ltN (23 + w) = 39 + w ∧ srN (23 + w) = (if w = 0 then 6 else 7) ∧ bitN (23 + w) = 24576 + 256 * w := by decide +kernel
theorem sufA_len {l : List Nat} (h : sufA l ≠ 4294967295) : l.length ≤ 2 := by
  unfold sufA at h
  by_cases z : (if ix 76 82 83 ((sufA1 l).getD 0 0) = 0 then sufA1 l else (sufA1 l).drop 1) = []
  · have h1 : (sufA1 l).length ≤ 1 := by
      by_cases y : ix 76 82 83 ((sufA1 l).getD 0 0) = 0
      · rw [if_pos y] at z; rw [z]; simp
      · rw [if_neg y] at z
        have := congrArg List.length z
        rw [List.length_drop, List.length_nil] at this
        omega
    unfold sufA1 at h1
    by_cases y : ix 90 79 67 (l.getD 0 0) = 0
    · rw [if_pos y] at h1; omega
    · rw [if_neg y, List.length_drop] at h1; omega
  · rw [if_neg z] at h; exact absurd rfl h
theorem sufI_len {l : List Nat} (h : sufI l ≠ 4294967295) : l.length ≤ 1 := by
  unfold sufI at h
  by_cases z : (if ix 83 67 80 (l.getD 0 0) = 0 then l else l.drop 1) = []
  · by_cases y : ix 83 67 80 (l.getD 0 0) = 0
    · rw [if_pos y] at z; rw [z]; simp
    · rw [if_neg y] at z
      have := congrArg List.length z
      rw [List.length_drop, List.length_nil] at this
      omega
  · rw [if_neg z] at h; exact absurd rfl h
theorem tx3 : ∀ j, j < 50 → (24 ≤ j ∧ j < 32 ∨ 39 ≤ j ∧ j < 46) → (tx j).length = 3 := by decide +kernel
theorem cls_all {cs : List Nat} (h : isN cs) : ∃ t, Cls cs t := by
  by_cases hx : ∀ i, i < 35 → fmN i ≠ 4 → fmN i ≠ 5 → fmN i ≠ 6 → cs ≠ tx (ltN i)
  · have fbx : ∀ i, i < 35 → fmN i ≠ 4 → ¬ (fmN i = 5 ∨ fmN i = 6) → fbN i cs = 4294967295 := by
      intro i hi a b
      unfold fbN
      rw [if_neg a, if_neg b, if_neg (hx i hi a (fun z => b (Or.inl z)) (fun z => b (Or.inr z)))]
    have q16 := hx 0 (by omega) (by decide) (by decide) (by decide)
    have q17 := hx 1 (by omega) (by decide) (by decide) (by decide)
    have q18 : n3 cs := ⟨hx 2 (by omega) (by decide) (by decide) (by decide), hx 3 (by omega) (by decide) (by decide) (by decide), hx 4 (by omega) (by decide) (by decide) (by decide), hx 5 (by omega) (by decide) (by decide) (by decide)⟩
    have q22 := hx 6 (by omega) (by decide) (by decide) (by decide)
    have q23 := hx 7 (by omega) (by decide) (by decide) (by decide)
    have q5 : n5 cs := ⟨hx 16 (by omega) (by decide) (by decide) (by decide), hx 17 (by omega) (by decide) (by decide) (by decide), hx 19 (by omega) (by decide) (by decide) (by decide), hx 20 (by omega) (by decide) (by decide) (by decide), hx 30 (by omega) (by decide) (by decide) (by decide), hx 31 (by omega) (by decide) (by decide) (by decide), hx 32 (by omega) (by decide) (by decide) (by decide), hx 33 (by omega) (by decide) (by decide) (by decide)⟩
    have q4 : n4 cs := ⟨hx 18 (by omega) (by decide) (by decide) (by decide), hx 21 (by omega) (by decide) (by decide) (by decide), hx 22 (by omega) (by decide) (by decide) (by decide)⟩
    have rr : ∀ (τ : SS) (post : SS → Prop), post (if 3 ≤ cs.length ∧ cs.length ≤ 5 ∧ (sufR cs).1 ≠ 0 then sS τ (sufR cs).1 (sufR cs).2 else sS τ 0 0) → f_R_classify post τ (jI (nameR 0 cs)) := fun τ post hp => p0 h (fun z => absurd z q16) (fun _ => p28 h q17 q18 q22 q23 q5 q4 hp)
    -- no statement's name
    have none : (∀ i, i < 35 → fmN i = 4 → cs.take 3 = tx (ltN i) → sufA (cs.drop 3) = 4294967295) → (∀ i, i < 35 → (fmN i = 5 ∨ fmN i = 6) → cs.take 3 = tx (ltN i) → sufI (cs.drop 3) = 4294967295) → (sufR cs).1 = 0 → ∃ t, Cls cs t := by
      intro a b c
      have all : ∀ i, i < 35 → fbN i cs = 4294967295 := by
        intro i hi
        by_cases f4 : fmN i = 4
        · unfold fbN
          rw [if_pos f4]
          by_cases z : cs.take 3 = tx (ltN i)
          · rw [if_pos z]; exact a i hi f4 z
          · rw [if_neg z]
        · by_cases f5 : fmN i = 5 ∨ fmN i = 6
          · unfold fbN
            rw [if_neg f4, if_pos f5]
            by_cases z : cs.take 3 = tx (ltN i)
            · rw [if_pos z]; exact b i hi f5 z
            · rw [if_neg z]
          · exact fbx i hi f4 f5
      refine ⟨34, by omega, fun i hi => all i (by omega), Or.inr rfl, fun τ post hp => rr τ post ?_⟩
      rw [if_neg (fun z => z.2.2 c)]
      exact hp
    by_cases f : fnN (cs.take 3) ≠ 4294967295
    · have f8 : fnN (cs.take 3) < 8 := by rcases fnN_lt (cs.take 3) with z | z; exact absurd z f; exact z
      have e3 := fnN_eq f
      by_cases y : sufA (cs.drop 3) ≠ 4294967295
      · obtain ⟨m1, m2, m3, m4⟩ := fmA _ f8
        have fb : fbN (8 + fnN (cs.take 3)) cs = sufA (cs.drop 3) := by
          unfold fbN
          rw [if_pos m1, if_pos (by rw [m2]; exact e3)]
        have l3 : cs.length ≥ 3 := by
          have := congrArg List.length e3
          rw [tx3 _ (by omega) (by omega), List.length_take] at this
          omega
        have l5 : cs.length ≤ 5 := by
          have := sufA_len y
          rw [List.length_drop] at this
          omega
        have eR : sufR cs = (5, 32768 + 256 * fnN (cs.take 3) + sufA (cs.drop 3)) := by unfold sufR; rw [if_pos f, if_pos y]
        refine ⟨8 + fnN (cs.take 3), by omega, fun i hi => ?_, Or.inl (by rw [fb]; exact y), fun τ post hp => rr τ post ?_⟩
        · by_cases f4 : fmN i = 4
          · obtain ⟨g1, g2, g3⟩ := fmz4 i (by omega) f4
            unfold fbN
            rw [if_pos f4, if_neg]
            intro z
            rw [g3] at z
            have := tx_inj _ (by omega) (by omega) _ (by omega) (by omega) (e3.symm.trans z)
            omega
          · have f5 : ¬ (fmN i = 5 ∨ fmN i = 6) := by
              intro z
              have := fmz5 i (by omega) z
              omega
            exact fbx i (by omega) f4 f5
        · rw [if_pos ⟨l3, l5, by rw [eR]; show (5 : Nat) ≠ 0; decide⟩, eR]
          have eb : bsN (8 + fnN (cs.take 3)) cs = 32768 + 256 * fnN (cs.take 3) + sufA (cs.drop 3) := by
            unfold bsN
            rw [if_neg (by omega), fb, m4]
          rw [m3, eb] at hp
          exact hp
      · refine none (fun i hi f4 z => Classical.not_not.mp y) (fun i hi f5 z => ?_) (by unfold sufR; rw [if_pos f, if_neg y])
        obtain ⟨g1, g2, g3⟩ := fmz5 i hi f5
        rw [g3] at z
        have := tx_inj _ (by omega) (by omega) _ (by omega) (by omega) (e3.symm.trans z)
        omega
    · have f := Classical.not_not.mp f
      have noA : ∀ i, i < 35 → fmN i = 4 → cs.take 3 ≠ tx (ltN i) := by
        intro i hi f4 z
        obtain ⟨g1, g2, g3⟩ := fmz4 i hi f4
        have := fnN_tx (i - 8) (by omega)
        rw [show 24 + (i - 8) = 16 + i by omega, ← g3, ← z, f] at this
        omega
      -- an instruction of a device
      have dev : ∀ w, w < 7 → cs.take 3 = tx (39 + w) → (sufI (cs.drop 3) ≠ 4294967295 → sufR cs = ((if w = 0 then 6 else 7), 24576 + 256 * w + sufI (cs.drop 3))) → (sufI (cs.drop 3) = 4294967295 → (sufR cs).1 = 0) → ∃ t, Cls cs t := by
        intro w hw e3 eR eN
        by_cases y : sufI (cs.drop 3) ≠ 4294967295
        · obtain ⟨m1, m2, m3, m4, m5⟩ := fmI w hw
          have fb : fbN (23 + w) cs = sufI (cs.drop 3) := by
            unfold fbN
            rw [if_neg m2, if_pos m1, if_pos (by rw [m3]; exact e3)]
          have l3 : cs.length ≥ 3 := by
            have := congrArg List.length e3
            rw [tx3 _ (by omega) (by omega), List.length_take] at this
            omega
          have l5 : cs.length ≤ 5 := by
            have := sufI_len y
            rw [List.length_drop] at this
            omega
          refine ⟨23 + w, by omega, fun i hi => ?_, Or.inl (by rw [fb]; exact y), fun τ post hp => rr τ post ?_⟩
          · by_cases f4 : fmN i = 4
            · unfold fbN
              rw [if_pos f4, if_neg (noA i (by omega) f4)]
            · by_cases f5 : fmN i = 5 ∨ fmN i = 6
              · obtain ⟨g1, g2, g3⟩ := fmz5 i (by omega) f5
                unfold fbN
                rw [if_neg f4, if_pos f5, if_neg]
                intro z
                rw [g3] at z
                have := tx_inj _ (by omega) (by omega) _ (by omega) (by omega) (e3.symm.trans z)
                omega
              · exact fbx i (by omega) f4 f5
          · have eR := eR y
            rw [if_pos ⟨l3, l5, by rw [eR]; show (if w = 0 then 6 else 7) ≠ 0; split <;> omega⟩, eR]
            have eb : bsN (23 + w) cs = 24576 + 256 * w + sufI (cs.drop 3) := by
              unfold bsN
              rw [if_neg (by omega), fb, m5]
            rw [m4, eb] at hp
            exact hp
        · exact none (fun i hi f4 z => absurd z (noA i hi f4)) (fun i hi f5 z => Classical.not_not.mp y) (eN (Classical.not_not.mp y))
      by_cases c39 : cs.take 3 = tx 39
      · refine dev 0 (by omega) c39 (fun y => ?_) (fun y => ?_)
        · unfold sufR
          rw [if_neg (fun z => z f), if_pos c39, if_pos y]
          rfl
        · unfold sufR
          rw [if_neg (fun z => z f), if_pos c39, if_neg (fun z => z y)]
      · by_cases w : whN (cs.take 3) ≠ 4294967295
        · have wl : 0 < whN (cs.take 3) ∧ whN (cs.take 3) < 7 := by rcases whN_lt (cs.take 3) with z | z; exact absurd z w; exact z
          refine dev (whN (cs.take 3)) wl.2 (whN_eq w) (fun y => ?_) (fun y => ?_)
          · unfold sufR
            rw [if_neg (fun z => z f), if_neg c39, if_pos w, if_pos y, if_neg (by omega)]
          · unfold sufR
            rw [if_neg (fun z => z f), if_neg c39, if_pos w, if_neg (fun z => z y)]
        · have w := Classical.not_not.mp w
          refine none (fun i hi f4 z => absurd z (noA i hi f4)) (fun i hi f5 z => ?_) (by unfold sufR; rw [if_neg (fun z => z f), if_neg c39, if_neg (fun z => z w)])
          obtain ⟨g1, g2, g3⟩ := fmz5 i hi f5
          by_cases i23 : i = 23
          · rw [g3, i23] at z; exact absurd z c39
          · have := whN_tx (i - 23) (by omega) (by omega)
            rw [show 39 + (i - 23) = 16 + i by omega, ← g3, ← z, w] at this
            omega
  · have hx := Classical.not_forall.mp hx
    obtain ⟨i, hi⟩ := hx
    have hi := Classical.not_imp.mp hi
    obtain ⟨h35, hi⟩ := hi
    have hi := Classical.not_imp.mp hi
    obtain ⟨f4, hi⟩ := hi
    have hi := Classical.not_imp.mp hi
    obtain ⟨f5, hi⟩ := hi
    have hi := Classical.not_imp.mp hi
    obtain ⟨f6, hi⟩ := hi
    have e := Classical.not_not.mp hi
    have hq : i = 0 ∨ i = 1 ∨ i = 2 ∨ i = 3 ∨ i = 4 ∨ i = 5 ∨ i = 6 ∨ i = 7 ∨ i = 16 ∨ i = 17 ∨ i = 18 ∨ i = 19 ∨ i = 20 ∨ i = 21 ∨ i = 22 ∨ i = 30 ∨ i = 31 ∨ i = 32 ∨ i = 33 ∨ i = 34 := by
      have : ∀ i, i < 35 → (fmN i = 4 ∨ fmN i = 5 ∨ fmN i = 6 ∨ i < 8 ∨ (16 ≤ i ∧ i < 23) ∨ 30 ≤ i) := by decide +kernel
      have := this i h35
      omega
    rcases hq with rfl | rfl | rfl | rfl | rfl | rfl | rfl | rfl | rfl | rfl | rfl | rfl | rfl | rfl | rfl | rfl | rfl | rfl | rfl | rfl
    · exact ⟨0, by rw [show cs = tx 16 from e]; exact cl_16⟩
    · exact ⟨1, by rw [show cs = tx 17 from e]; exact cl_17⟩
    · exact ⟨2, by rw [show cs = tx 18 from e]; exact cl_18⟩
    · exact ⟨3, by rw [show cs = tx 19 from e]; exact cl_19⟩
    · exact ⟨4, by rw [show cs = tx 20 from e]; exact cl_20⟩
    · exact ⟨5, by rw [show cs = tx 21 from e]; exact cl_21⟩
    · exact ⟨6, by rw [show cs = tx 22 from e]; exact cl_22⟩
    · exact ⟨7, by rw [show cs = tx 23 from e]; exact cl_23⟩
    · exact ⟨16, by rw [show cs = tx 32 from e]; exact cl_32⟩
    · exact ⟨17, by rw [show cs = tx 33 from e]; exact cl_33⟩
    · exact ⟨18, by rw [show cs = tx 34 from e]; exact cl_34⟩
    · exact ⟨19, by rw [show cs = tx 35 from e]; exact cl_35⟩
    · exact ⟨20, by rw [show cs = tx 36 from e]; exact cl_36⟩
    · exact ⟨21, by rw [show cs = tx 37 from e]; exact cl_37⟩
    · exact ⟨22, by rw [show cs = tx 38 from e]; exact cl_38⟩
    · exact ⟨30, by rw [show cs = tx 46 from e]; exact cl_46⟩
    · exact ⟨31, by rw [show cs = tx 47 from e]; exact cl_47⟩
    · exact ⟨32, by rw [show cs = tx 48 from e]; exact cl_48⟩
    · exact ⟨33, by rw [show cs = tx 49 from e]; exact cl_49⟩
    · have e : cs = [] := e
      have := h.1
      rw [e] at this
      simp at this
