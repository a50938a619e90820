/-! the pure side: bits of operands, the class -/
theorem or_b {k b a : Nat} (hb : b % 2 ^ k = 0) (ha : a < 2 ^ k) : b ||| a = b + a := by
  have := or_add k (b / 2 ^ k) ha
  rw [Nat.div_mul_cancel (Nat.dvd_of_mod_eq_zero hb)] at this
  exact this
theorem adW_lt {ind loc e hm m : Nat} (hi : ind ≤ 1) : (adW ind loc e hm m).2 < 2048 := by
  unfold adW
  split
  · split
    · show 1024 * ind + e < 2048; omega
    · split
      · show 1024 * ind + 256 + (e + 65536 - loc) % 256 < 2048; omega
      · show 0 < 2048; omega
  · split
    · show 0 < 2048; omega
    · split
      · show 1024 * ind + 256 * m + e % 256 < 2048; omega
      · show 0 < 2048; omega
def bOK (f b : Nat) : Prop := (f = 2 → b % 2048 = 0) ∧ (f = 3 → b % 8192 = 0) ∧ (f = 4 → 32768 ≤ b ∧ b < 34816 ∧ b % 8 = 0) ∧ (f = 5 ∨ f = 7 → b % 64 = 0) ∧ (f = 6 → 24576 ≤ b ∧ b < 26624 ∧ b % 64 = 0) ∧ (f = 9 → 24576 ≤ b ∧ b < 26624) ∧ (f = 10 → b = 0) ∧ b < 65536
theorem q_shl11 {a : Nat} : nI a <<< ((11 : Int32) &&& 31) = nI (a * 2048) := by
  rw [show ((11 : Int32) &&& 31) = nI 11 by decide, q_shl (by omega)]
theorem q_shl13 {a : Nat} : nI a <<< ((13 : Int32) &&& 31) = nI (a * 8192) := by
  rw [show ((13 : Int32) &&& 31) = nI 13 by decide, q_shl (by omega)]
/-- fields that do not meet -/
theorem or_f4 {b v0 v1 s : Nat} (h1 : 32768 ≤ b) (h2 : b < 34816) (h3 : b % 8 = 0) (hv0 : v0 ≤ 3) (hv1 : v1 ≤ 3) (hs : s ≤ 7) : b ||| ((v0 * 8192 ||| v1 * 2048) ||| s) = b + 8192 * v0 + 2048 * v1 + s := by
  obtain ⟨L, hL⟩ : ∃ L, b = 32768 + L := ⟨b - 32768, by omega⟩
  have e1 : v0 * 8192 ||| v1 * 2048 = v0 * 8192 + v1 * 2048 := or_b (k := 13) (by omega) (by omega)
  have e2 : 32768 ||| L = 32768 + L := or_b (k := 15) (by omega) (by omega)
  have e3 : 32768 ||| (v0 * 8192 + v1 * 2048) = 32768 + (v0 * 8192 + v1 * 2048) := or_b (k := 15) (by omega) (by omega)
  have e4 : L ||| s = L + s := or_b (k := 3) (by omega) (by omega)
  have e5 : (32768 + (v0 * 8192 + v1 * 2048)) ||| (L + s) = (32768 + (v0 * 8192 + v1 * 2048)) + (L + s) := or_b (k := 11) (by omega) (by omega)
  rw [e1, hL, ← e2]
  have : (32768 ||| L) ||| ((v0 * 8192 + v1 * 2048) ||| s) = (32768 ||| (v0 * 8192 + v1 * 2048)) ||| (L ||| s) := by
    rw [Nat.or_assoc, Nat.or_assoc, ← Nat.or_assoc L, Nat.or_comm L, Nat.or_assoc]
  rw [this, e3, e4, e5, e2]
  omega
theorem or_f6 {b v0 s : Nat} (h1 : 24576 ≤ b) (h2 : b < 26624) (h3 : b % 64 = 0 ∨ s = 0) (hv0 : v0 ≤ 3) (hs : s ≤ 63) : b ||| (v0 * 2048 ||| s) = b + 2048 * v0 + s := by
  obtain ⟨L, hL⟩ : ∃ L, b = 24576 + L := ⟨b - 24576, by omega⟩
  have e2 : 24576 ||| L = 24576 + L := or_b (k := 13) (by omega) (by omega)
  have e3 : 24576 ||| v0 * 2048 = 24576 + v0 * 2048 := or_b (k := 13) (by omega) (by omega)
  have e4 : L ||| s = L + s := by
    rcases h3 with z | z
    · exact or_b (k := 6) (by omega) (by omega)
    · rw [z]; exact Nat.or_zero L
  have e5 : (24576 + v0 * 2048) ||| (L + s) = (24576 + v0 * 2048) + (L + s) := or_b (k := 11) (by omega) (by omega)
  rw [hL, ← e2]
  have : (24576 ||| L) ||| (v0 * 2048 ||| s) = (24576 ||| v0 * 2048) ||| (L ||| s) := by
    rw [Nat.or_assoc, Nat.or_assoc, ← Nat.or_assoc L, Nat.or_comm L, Nat.or_assoc]
  rw [this, e3, e4, e5, e2]
  omega
theorem c_opB {σ : SS} {f b ind loc : Nat} {vs : List Nat} {post : Int32 → SS → Prop} (hf : f ≤ 10) (hop : OpV σ ind vs) (hi : ind ≤ 1) (h3 : leN f ≤ vs.length) (h4 : vs.length ≤ moN f) (hl : loc ≤ 32768) (h30 : σ.1 30 = nI loc) (h0 : σ.1 32 = nI 0) (inv : InvC σ) (hb : bOK f b)
    (h1 : (wd f b ind loc vs).1 = 0 → ∀ r, nI b ||| r = nI (wd f b ind loc vs).2 → post r σ)
    (h2 : ∀ g, g = (wd f b ind loc vs).1 → ∀ q u, FltC σ g u → post q u) : f_A_operandBits post σ (nI f) := by
  obtain ⟨b2, b3, b4, b5, b6, b9, b10, _⟩ := hb
  rcases f11 hf with z | z | z | z | z | z | z | z | z | z | z <;> subst z
  · refine b_f (by decide) (b_f (by decide) (b_f (by decide) (b_f (by decide) (b_f (by decide) (b_f (by decide) (b_f (by decide) (b_f (by decide) (b_f (by decide) (h1 rfl _ ?_)))))))))
    rw [q_lit, q_or, Nat.or_zero]; rfl
  · refine b_f (by decide) (b_f (by decide) (b_f (by decide) (b_f (by decide) (b_f (by decide) (b_f (by decide) (b_f (by decide) (b_f (by decide) (b_f (by decide) (h1 rfl _ ?_)))))))))
    rw [q_lit, q_or, Nat.or_zero]; rfl
  · have e2 : leN 2 = 1 ∧ moN 2 = 2 := ⟨rfl, rfl⟩
    have ew : wd 2 b ind loc vs = ((adW ind loc (vs.getD 0 0) (vs.length - 1) (vs.getD 1 0)).1, b + (adW ind loc (vs.getD 0 0) (vs.length - 1) (vs.getD 1 0)).2) := rfl
    rw [ew] at h1 h2
    refine b_t rfl (c_adB (k := 0) hop hi (by omega) (by omega) (by omega) hl h30 h0 inv (fun z => h1 z _ ?_) (fun g eg q u hu => h2 g eg q u hu))
    rw [q_or, or_b (k := 11) (b2 rfl) (adW_lt hi)]
  · have e2 : leN 3 = 2 ∧ moN 3 = 3 := ⟨rfl, rfl⟩
    have ew : wd 3 b ind loc vs = if 3 < vs.getD 0 0 then (5, 0) else ((adW ind loc (vs.getD 1 0) (vs.length - 2) (vs.getD 2 0)).1, b + 2048 * vs.getD 0 0 + (adW ind loc (vs.getD 1 0) (vs.length - 2) (vs.getD 2 0)).2) := rfl
    rw [ew] at h1 h2
    refine b_f (by decide) (b_t rfl (c_bnd (k := 0) (hi := 3) hop (by omega) (by omega) (by omega) h0 inv (fun z => ?_) (fun z q u hu => ?_)))
    · rw [if_neg (by omega)] at h1 h2
      refine c_adB (k := 1) hop hi (by omega) (by omega) (by omega) hl h30 h0 inv (fun y => h1 y _ ?_) (fun g eg q u hu => h2 g eg _ u hu)
      have al := adW_lt (loc := loc) (e := vs.getD 1 0) (hm := vs.length - 2) (m := vs.getD 2 0) hi
      rw [q_shl11, q_or, q_or, or_b (k := 11) (b := vs.getD 0 0 * 2048) (by omega) al, or_b (k := 13) (b3 rfl) (by omega)]
      exact congrArg nI (by omega)
    · rw [if_pos z] at h2
      exact s_adB (k := 1) (by omega) hu.ne (fun r => h2 5 rfl _ u hu)
  · have e2 : leN 4 = 2 ∧ moN 4 = 3 := ⟨rfl, rfl⟩
    have ew : wd 4 b ind loc vs = if 3 < vs.getD 0 0 ∨ 3 < vs.getD 1 0 ∨ (2 < vs.length ∧ 7 < vs.getD 2 0) then (5, 0) else (0, b + 8192 * vs.getD 0 0 + 2048 * vs.getD 1 0 + (if 2 < vs.length then vs.getD 2 0 else 0)) := rfl
    rw [ew] at h1 h2
    obtain ⟨c1, c2, c3⟩ := b4 rfl
    have skF : ∀ {u : SS} {p : Int32 → SS → Prop}, u.1 32 ≠ nI 0 → (∀ r, p r u) → f_A_skipBits p u := fun hf hp => b_c (fun _ => hp _) (fun _ => s_bnd (k := 2) (by omega) hf (fun r => hp r))
    refine b_f (by decide) (b_f (by decide) (b_t rfl (c_bnd (k := 0) (hi := 3) hop (by omega) (by omega) (by omega) h0 inv (fun z => ?_) (fun z q u hu => ?_))))
    · refine c_bnd (k := 1) (hi := 3) hop (by omega) (by omega) (by omega) h0 inv (fun y => ?_) (fun y q u hu => ?_)
      · show br (σ.1 27 ≤ 2) _ _
        rw [hop.2.1]
        by_cases c : vs.length ≤ 2
        · rw [if_neg (by omega), if_neg (show ¬ 2 < vs.length by omega)] at h1
          refine b_t (by rw [q_lit, q_le (by omega) (by omega)]; exact c) (h1 rfl _ ?_)
          rw [q_shl11, q_shl13, q_lit, q_or, q_or, q_or, or_f4 c1 c2 c3 z y (by omega)]
        · rw [if_pos (show 2 < vs.length by omega)] at h1
          refine b_f (by rw [q_lit, q_le (by omega) (by omega)]; exact c) (c_bnd (k := 2) (hi := 7) hop (by omega) (by omega) (by omega) h0 inv (fun x => ?_) (fun x q u hu => ?_))
          · rw [if_neg (by omega)] at h1
            refine h1 rfl _ ?_
            rw [q_shl11, q_shl13, q_or, q_or, q_or, or_f4 c1 c2 c3 z y x]
          · rw [if_pos (by omega)] at h2
            exact h2 5 rfl _ u hu
      · rw [if_pos (by omega)] at h2
        exact skF hu.ne (fun r => h2 5 rfl _ u hu)
    · rw [if_pos (by omega)] at h2
      exact s_bnd (k := 1) (by omega) hu.ne (fun r => skF hu.ne (fun r => h2 5 rfl _ u hu))
  · have e2 : leN 5 = 1 ∧ moN 5 = 1 := ⟨rfl, rfl⟩
    have ew : wd 5 b ind loc vs = if 63 < vs.getD 0 0 then (5, 0) else (0, b + vs.getD 0 0) := rfl
    rw [ew] at h1 h2
    refine b_f (by decide) (b_f (by decide) (b_f (by decide) (b_t rfl (c_bnd (k := 0) (hi := 63) hop (by omega) (by omega) (by omega) h0 inv (fun z => ?_) (fun z q u hu => ?_)))))
    · rw [if_neg (by omega)] at h1
      refine h1 rfl _ ?_
      rw [q_or, or_b (k := 6) (b5 (by omega)) (by omega)]
    · rw [if_pos z] at h2
      exact h2 5 rfl _ u hu
  · have e2 : leN 6 = 2 ∧ moN 6 = 2 := ⟨rfl, rfl⟩
    have ew : wd 6 b ind loc vs = if 3 < vs.getD 0 0 ∨ 63 < vs.getD 1 0 then (5, 0) else (0, b + 2048 * vs.getD 0 0 + vs.getD 1 0) := rfl
    rw [ew] at h1 h2
    obtain ⟨c1, c2, c3⟩ := b6 rfl
    refine b_f (by decide) (b_f (by decide) (b_f (by decide) (b_f (by decide) (b_t rfl (c_bnd (k := 0) (hi := 3) hop (by omega) (by omega) (by omega) h0 inv (fun z => ?_) (fun z q u hu => ?_))))))
    · refine c_bnd (k := 1) (hi := 63) hop (by omega) (by omega) (by omega) h0 inv (fun y => ?_) (fun y q u hu => ?_)
      · rw [if_neg (by omega)] at h1
        refine h1 rfl _ ?_
        rw [q_shl11, q_or, q_or, or_f6 c1 c2 (Or.inl c3) z y]
      · rw [if_pos (by omega)] at h2
        exact h2 5 rfl _ u hu
    · rw [if_pos (by omega)] at h2
      exact s_bnd (k := 1) (by omega) hu.ne (fun r => h2 5 rfl _ u hu)
  · have e2 : leN 7 = 1 ∧ moN 7 = 1 := ⟨rfl, rfl⟩
    have ew : wd 7 b ind loc vs = if 63 < vs.getD 0 0 then (5, 0) else (0, b + vs.getD 0 0) := rfl
    rw [ew] at h1 h2
    refine b_f (by decide) (b_f (by decide) (b_f (by decide) (b_f (by decide) (b_f (by decide) (b_t rfl (c_bnd (k := 0) (hi := 63) hop (by omega) (by omega) (by omega) h0 inv (fun z => ?_) (fun z q u hu => ?_)))))))
    · rw [if_neg (by omega)] at h1
      refine h1 rfl _ ?_
      rw [q_or, or_b (k := 6) (b5 (by omega)) (by omega)]
    · rw [if_pos z] at h2
      exact h2 5 rfl _ u hu
  · refine b_f (by decide) (b_f (by decide) (b_f (by decide) (b_f (by decide) (b_f (by decide) (b_f (by decide) (b_t rfl (h1 rfl _ ?_)))))))
    rw [q_lit, q_or, Nat.or_zero]; rfl
  · have e2 : leN 9 = 1 ∧ moN 9 = 1 := ⟨rfl, rfl⟩
    have ew : wd 9 b ind loc vs = if 3 < vs.getD 0 0 then (5, 0) else (0, b + 2048 * vs.getD 0 0) := rfl
    rw [ew] at h1 h2
    obtain ⟨c1, c2⟩ := b9 rfl
    refine b_f (by decide) (b_f (by decide) (b_f (by decide) (b_f (by decide) (b_f (by decide) (b_f (by decide) (b_f (by decide) (b_t rfl (c_bnd (k := 0) (hi := 3) hop (by omega) (by omega) (by omega) h0 inv (fun z => ?_) (fun z q u hu => ?_)))))))))
    · rw [if_neg (by omega)] at h1
      refine h1 rfl _ ?_
      have := or_f6 (s := 0) c1 c2 (Or.inr rfl) z (by omega)
      rw [Nat.or_zero] at this
      rw [q_shl11, q_or, this]; rfl
    · rw [if_pos z] at h2
      exact h2 5 rfl _ u hu
  · have e2 : leN 10 = 1 ∧ moN 10 = 1 := ⟨rfl, rfl⟩
    have ew : wd 10 b ind loc vs = (0, vs.getD 0 0) := rfl
    rw [ew] at h1 h2
    refine b_f (by decide) (b_f (by decide) (b_f (by decide) (b_f (by decide) (b_f (by decide) (b_f (by decide) (b_f (by decide) (b_f (by decide) (b_t rfl ⟨by rw [q_lit, q_in (by omega)]; omega, h1 rfl _ ?_⟩))))))))
    have v := (hop.2.2 0 (by omega)).1
    rw [b10 rfl, show (0 : Int32).toNatClampNeg = 0 by decide, v, q_or, Nat.zero_or]
theorem bt_1 : ∀ e, e < 34 → 2 ≤ e → (fmN e = 2 → bitN e % 2048 = 0) ∧ (fmN e = 3 → bitN e % 8192 = 0) ∧ (fmN e = 5 → bitN e % 256 = 0) ∧ (fmN e = 7 → bitN e % 64 = 0) := by decide +kernel
theorem bt_2 : ∀ e, e < 34 → 2 ≤ e → fmN e = 4 → 32768 ≤ bitN e ∧ bitN e ≤ 34560 ∧ bitN e % 256 = 0 := by decide +kernel
theorem bt_3 : ∀ e, e < 34 → 2 ≤ e → fmN e = 6 → 24576 ≤ bitN e ∧ bitN e ≤ 26112 ∧ bitN e % 256 = 0 := by decide +kernel
theorem bt_4 : ∀ e, e < 34 → 2 ≤ e → fmN e = 9 → 24576 ≤ bitN e ∧ bitN e < 26624 := by decide +kernel
theorem bt_5 : ∀ e, e < 34 → 2 ≤ e → fmN e ≠ 10 ∧ bitN e ≤ 34560 ∧ 2 ≤ fmN e := by decide +kernel
theorem sufA_f {l : List Nat} (h : sufA l ≠ 4294967295) : sufA l % 16 = 0 ∧ sufA l ≤ 240 := by
  unfold sufA at h ⊢
  have a1 := ix_le 90 79 67 (l.getD 0 0)
  have a2 := ix_le 76 82 83 ((sufA1 l).getD 0 0)
  by_cases z : (if ix 76 82 83 ((sufA1 l).getD 0 0) = 0 then sufA1 l else (sufA1 l).drop 1) = []
  · rw [if_pos z]
    omega
  · rw [if_neg z] at h; exact absurd rfl h
theorem sufI_f {l : List Nat} (h : sufI l ≠ 4294967295) : sufI l % 64 = 0 ∧ sufI l ≤ 192 := by
  unfold sufI at h ⊢
  have a1 := ix_le 83 67 80 (l.getD 0 0)
  by_cases z : (if ix 83 67 80 (l.getD 0 0) = 0 then l else l.drop 1) = []
  · rw [if_pos z]
    omega
  · rw [if_neg z] at h; exact absurd rfl h
theorem fb_f {e : Nat} {cs : List Nat} (h : fbN e cs ≠ 4294967295) : (fmN e = 4 → fbN e cs % 16 = 0 ∧ fbN e cs ≤ 240) ∧ (fmN e = 5 ∨ fmN e = 6 → fbN e cs % 64 = 0 ∧ fbN e cs ≤ 192) ∧ (fmN e ≠ 4 → fmN e ≠ 5 → fmN e ≠ 6 → fbN e cs = 0) := by
  unfold fbN at h ⊢
  by_cases c4 : fmN e = 4
  · rw [if_pos c4] at h ⊢
    by_cases z : cs.take 3 = tx (ltN e)
    · rw [if_pos z] at h ⊢
      exact ⟨fun _ => sufA_f h, fun k => by omega, fun k => absurd c4 k⟩
    · rw [if_neg z] at h; exact absurd rfl h
  · rw [if_neg c4] at h ⊢
    by_cases c5 : fmN e = 5 ∨ fmN e = 6
    · rw [if_pos c5] at h ⊢
      by_cases z : cs.take 3 = tx (ltN e)
      · rw [if_pos z] at h ⊢
        exact ⟨fun k => absurd k c4, fun _ => sufI_f h, fun _ k k2 => by omega⟩
      · rw [if_neg z] at h; exact absurd rfl h
    · rw [if_neg c5] at h ⊢
      by_cases z : cs = tx (ltN e)
      · rw [if_pos z]
        exact ⟨fun k => absurd k c4, fun k => absurd k c5, fun _ _ _ => rfl⟩
      · rw [if_neg z] at h; exact absurd rfl h
theorem bOK_e {e h : Nat} {cs : List Nat} (he : e < 34) (h2 : 2 ≤ e) (hfb : fbN e cs ≠ 4294967295) (hh : h = 0 ∨ (h = 8 ∧ fmN e = 4)) : bitN e ||| (fbN e cs ||| h) = bsN e cs + h ∧ bOK (fmN e) (bsN e cs + h) := by
  obtain ⟨t2, t3, t5, t7⟩ := bt_1 e he h2
  have t4 := bt_2 e he h2
  have t6 := bt_3 e he h2
  have t9 := bt_4 e he h2
  obtain ⟨t10, tl, tl2⟩ := bt_5 e he h2
  obtain ⟨f4, f5, f0⟩ := fb_f hfb
  have eb : bsN e cs = bitN e + fbN e cs := by unfold bsN; rw [if_neg (by omega)]
  rw [eb]
  by_cases c4 : fmN e = 4
  · obtain ⟨x1, x2⟩ := f4 c4
    obtain ⟨y1, y2, y3⟩ := t4 c4
    have o1 : fbN e cs ||| h = fbN e cs + h := or_b (k := 4) (by omega) (by omega)
    rw [o1, or_b (k := 8) (by omega) (by omega)]
    refine ⟨by omega, by omega, by omega, fun _ => by omega, by omega, by omega, by omega, by omega, by omega⟩
  · obtain rfl : h = 0 := by omega
    rw [Nat.or_zero]
    by_cases c5 : fmN e = 5 ∨ fmN e = 6
    · obtain ⟨x1, x2⟩ := f5 c5
      have y : bitN e % 256 = 0 := by
        rcases c5 with z | z
        · exact t5 z
        · exact (t6 z).2.2
      rw [or_b (k := 8) (by omega) (by omega)]
      refine ⟨by omega, by omega, by omega, by omega, by omega, fun z => ?_, by omega, by omega, by omega⟩
      have := t6 z
      omega
    · have x0 := f0 c4 (by omega) (by omega)
      rw [x0, Nat.or_zero]
      refine ⟨by omega, fun z => ?_, fun z => ?_, by omega, fun z => ?_, by omega, fun z => ?_, by omega, by omega⟩
      · have := t2 z; omega
      · have := t3 z; omega
      · have := t7 (by omega); omega
      · have := t9 z; omega
