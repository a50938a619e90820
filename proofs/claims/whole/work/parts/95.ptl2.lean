/-! the pure side: tell -/
theorem m_F800 : ∀ a, a < 32 → ∀ m, m < 8 → ∀ r, r < 256 → (2048 * a + 256 * m + r) &&& 63488 = 2048 * a := by decide +kernel
theorem m_E000 : ∀ a, a < 8 → ∀ m, m < 32 → ∀ r, r < 256 → (8192 * a + 256 * m + r) &&& 57344 = 8192 * a := by decide +kernel
theorem m_8700 : ∀ a, a < 2 → ∀ b, b < 16 → ∀ f, f < 8 → ∀ r, r < 256 → (32768 * a + 2048 * b + 256 * f + r) &&& 34560 = 32768 * a + 256 * f := by decide +kernel
theorem m_E7FF : ∀ a, a < 8 → ∀ b, b < 4 → ∀ f, f < 8 → ∀ r, r < 256 → (8192 * a + 2048 * b + 256 * f + r) &&& 59391 = 8192 * a + 256 * f + r := by decide +kernel
theorem m_FF00 : ∀ a, a < 256 → ∀ r, r < 256 → (256 * a + r) &&& 65280 = 256 * a := by decide +kernel
theorem m_E700 : ∀ a, a < 8 → ∀ b, b < 4 → ∀ f, f < 8 → ∀ r, r < 256 → (8192 * a + 2048 * b + 256 * f + r) &&& 59136 = 8192 * a + 256 * f := by decide +kernel
theorem m_FFC0 : ∀ a, a < 32 → ∀ m, m < 32 → ∀ r, r < 64 → (2048 * a + 64 * m + r) &&& 65472 = 2048 * a + 64 * m := by decide +kernel
def mskN (i w : Nat) : Nat := if i < 2 then 0 else if i < 6 then w / 2048 * 2048 else if i < 8 then w / 8192 * 8192 else if i < 16 then w / 32768 * 32768 + w / 256 % 8 * 256 else if i < 20 then w else if i < 23 then w / 8192 * 8192 + w % 2048 else if i < 24 then w / 256 * 256 else if i < 30 then w / 8192 * 8192 + w / 256 % 8 * 256 else if i < 34 then w / 64 * 64 else 0
def bitN (i : Nat) : Nat := ([1, 1, 0, 2048, 4096, 6144, 8192, 16384, 32768, 33024, 33280, 33536, 33792, 34048, 34304, 34560, 24703, 24767, 26175, 25919, 24895, 25407, 25663, 24576, 24832, 25088, 25344, 25600, 25856, 26112, 26368, 26432, 26496, 26560, 0] : List Nat).getD i 0
def fixN (i : Nat) : Nat := ([0, 0, 63488, 63488, 63488, 63488, 57344, 57344, 34560, 34560, 34560, 34560, 34560, 34560, 34560, 34560, 65535, 65535, 65535, 65535, 59391, 59391, 59391, 65280, 59136, 59136, 59136, 59136, 59136, 59136, 65472, 65472, 65472, 65472, 0] : List Nat).getD i 0
theorem eS_N : ∀ i, i < 35 → eS_fixed i = nI (fixN i) ∧ eS_bits i = nI (bitN i) ∧ bitN i < 65536 := by decide +kernel
theorem msk_e {w : Nat} (hw : w < 65536) : ∀ i, i < 35 → w &&& fixN i = mskN i w := by
  have a1 := m_F800 (w / 2048) (by omega) (w / 256 % 8) (by omega) (w % 256) (by omega)
  rw [show 2048 * (w / 2048) + 256 * (w / 256 % 8) + w % 256 = w by omega] at a1
  have a2 := m_E000 (w / 8192) (by omega) (w / 256 % 32) (by omega) (w % 256) (by omega)
  rw [show 8192 * (w / 8192) + 256 * (w / 256 % 32) + w % 256 = w by omega] at a2
  have a3 := m_8700 (w / 32768) (by omega) (w / 2048 % 16) (by omega) (w / 256 % 8) (by omega) (w % 256) (by omega)
  rw [show 32768 * (w / 32768) + 2048 * (w / 2048 % 16) + 256 * (w / 256 % 8) + w % 256 = w by omega] at a3
  have a4 := m_E7FF (w / 8192) (by omega) (w / 2048 % 4) (by omega) (w / 256 % 8) (by omega) (w % 256) (by omega)
  rw [show 8192 * (w / 8192) + 2048 * (w / 2048 % 4) + 256 * (w / 256 % 8) + w % 256 = w by omega] at a4
  have a5 := m_FF00 (w / 256) (by omega) (w % 256) (by omega)
  rw [show 256 * (w / 256) + w % 256 = w by omega] at a5
  have a6 := m_E700 (w / 8192) (by omega) (w / 2048 % 4) (by omega) (w / 256 % 8) (by omega) (w % 256) (by omega)
  rw [show 8192 * (w / 8192) + 2048 * (w / 2048 % 4) + 256 * (w / 256 % 8) + w % 256 = w by omega] at a6
  have a7 := m_FFC0 (w / 2048) (by omega) (w / 64 % 32) (by omega) (w % 64) (by omega)
  rw [show 2048 * (w / 2048) + 64 * (w / 64 % 32) + w % 64 = w by omega] at a7
  intro i hi
  match i, hi with
  | 0, _ => exact (Nat.and_zero w : w &&& 0 = 0)
  | 1, _ => exact (Nat.and_zero w : w &&& 0 = 0)
  | 2, _ => exact (by show w &&& 63488 = w / 2048 * 2048; rw [a1]; omega : w &&& 63488 = w / 2048 * 2048)
  | 3, _ => exact (by show w &&& 63488 = w / 2048 * 2048; rw [a1]; omega : w &&& 63488 = w / 2048 * 2048)
  | 4, _ => exact (by show w &&& 63488 = w / 2048 * 2048; rw [a1]; omega : w &&& 63488 = w / 2048 * 2048)
  | 5, _ => exact (by show w &&& 63488 = w / 2048 * 2048; rw [a1]; omega : w &&& 63488 = w / 2048 * 2048)
  | 6, _ => exact (by show w &&& 57344 = w / 8192 * 8192; rw [a2]; omega : w &&& 57344 = w / 8192 * 8192)
  | 7, _ => exact (by show w &&& 57344 = w / 8192 * 8192; rw [a2]; omega : w &&& 57344 = w / 8192 * 8192)
  | 8, _ => exact (by show w &&& 34560 = w / 32768 * 32768 + w / 256 % 8 * 256; rw [a3]; omega : w &&& 34560 = w / 32768 * 32768 + w / 256 % 8 * 256)
  | 9, _ => exact (by show w &&& 34560 = w / 32768 * 32768 + w / 256 % 8 * 256; rw [a3]; omega : w &&& 34560 = w / 32768 * 32768 + w / 256 % 8 * 256)
  | 10, _ => exact (by show w &&& 34560 = w / 32768 * 32768 + w / 256 % 8 * 256; rw [a3]; omega : w &&& 34560 = w / 32768 * 32768 + w / 256 % 8 * 256)
  | 11, _ => exact (by show w &&& 34560 = w / 32768 * 32768 + w / 256 % 8 * 256; rw [a3]; omega : w &&& 34560 = w / 32768 * 32768 + w / 256 % 8 * 256)
  | 12, _ => exact (by show w &&& 34560 = w / 32768 * 32768 + w / 256 % 8 * 256; rw [a3]; omega : w &&& 34560 = w / 32768 * 32768 + w / 256 % 8 * 256)
  | 13, _ => exact (by show w &&& 34560 = w / 32768 * 32768 + w / 256 % 8 * 256; rw [a3]; omega : w &&& 34560 = w / 32768 * 32768 + w / 256 % 8 * 256)
  | 14, _ => exact (by show w &&& 34560 = w / 32768 * 32768 + w / 256 % 8 * 256; rw [a3]; omega : w &&& 34560 = w / 32768 * 32768 + w / 256 % 8 * 256)
  | 15, _ => exact (by show w &&& 34560 = w / 32768 * 32768 + w / 256 % 8 * 256; rw [a3]; omega : w &&& 34560 = w / 32768 * 32768 + w / 256 % 8 * 256)
  | 16, _ => exact (by show w &&& 65535 = w; rw [q_a16, Nat.mod_eq_of_lt hw] : w &&& 65535 = w)
  | 17, _ => exact (by show w &&& 65535 = w; rw [q_a16, Nat.mod_eq_of_lt hw] : w &&& 65535 = w)
  | 18, _ => exact (by show w &&& 65535 = w; rw [q_a16, Nat.mod_eq_of_lt hw] : w &&& 65535 = w)
  | 19, _ => exact (by show w &&& 65535 = w; rw [q_a16, Nat.mod_eq_of_lt hw] : w &&& 65535 = w)
  | 20, _ => exact (by show w &&& 59391 = w / 8192 * 8192 + w % 2048; rw [a4]; omega : w &&& 59391 = w / 8192 * 8192 + w % 2048)
  | 21, _ => exact (by show w &&& 59391 = w / 8192 * 8192 + w % 2048; rw [a4]; omega : w &&& 59391 = w / 8192 * 8192 + w % 2048)
  | 22, _ => exact (by show w &&& 59391 = w / 8192 * 8192 + w % 2048; rw [a4]; omega : w &&& 59391 = w / 8192 * 8192 + w % 2048)
  | 23, _ => exact (by show w &&& 65280 = w / 256 * 256; rw [a5]; omega : w &&& 65280 = w / 256 * 256)
  | 24, _ => exact (by show w &&& 59136 = w / 8192 * 8192 + w / 256 % 8 * 256; rw [a6]; omega : w &&& 59136 = w / 8192 * 8192 + w / 256 % 8 * 256)
  | 25, _ => exact (by show w &&& 59136 = w / 8192 * 8192 + w / 256 % 8 * 256; rw [a6]; omega : w &&& 59136 = w / 8192 * 8192 + w / 256 % 8 * 256)
  | 26, _ => exact (by show w &&& 59136 = w / 8192 * 8192 + w / 256 % 8 * 256; rw [a6]; omega : w &&& 59136 = w / 8192 * 8192 + w / 256 % 8 * 256)
  | 27, _ => exact (by show w &&& 59136 = w / 8192 * 8192 + w / 256 % 8 * 256; rw [a6]; omega : w &&& 59136 = w / 8192 * 8192 + w / 256 % 8 * 256)
  | 28, _ => exact (by show w &&& 59136 = w / 8192 * 8192 + w / 256 % 8 * 256; rw [a6]; omega : w &&& 59136 = w / 8192 * 8192 + w / 256 % 8 * 256)
  | 29, _ => exact (by show w &&& 59136 = w / 8192 * 8192 + w / 256 % 8 * 256; rw [a6]; omega : w &&& 59136 = w / 8192 * 8192 + w / 256 % 8 * 256)
  | 30, _ => exact (by show w &&& 65472 = w / 64 * 64; rw [a7]; omega : w &&& 65472 = w / 64 * 64)
  | 31, _ => exact (by show w &&& 65472 = w / 64 * 64; rw [a7]; omega : w &&& 65472 = w / 64 * 64)
  | 32, _ => exact (by show w &&& 65472 = w / 64 * 64; rw [a7]; omega : w &&& 65472 = w / 64 * 64)
  | 33, _ => exact (by show w &&& 65472 = w / 64 * 64; rw [a7]; omega : w &&& 65472 = w / 64 * 64)
  | 34, _ => exact (Nat.and_zero w : w &&& 0 = 0)
  | n + 35, h => exact absurd h (by omega)
theorem mk_L {σ : SS} {w t : Nat} {post : Nat → SS → Prop} (hw : w < 65536) (ht : t < 35) (h1 : ∀ i, i < t → mskN i w ≠ bitN i) (h2 : mskN t w = bitN t) (h : post t σ) (k : Nat) : ∀ i, i + k = t → f_S_making_2 post (k + 1) σ (nI w) (nI i) := by
  induction k with
  | zero =>
    intro i hi
    have e : i = t := by omega
    subst e
    obtain ⟨a, b, c⟩ := eS_N i ht
    rw [f_S_making_2]
    refine b_f (by rw [q_lit, q_le (by omega) (by omega)]; omega) ⟨by rw [q_in (by omega)]; omega, by rw [q_in (by omega)]; omega, ?_⟩
    rw [q_cl (by omega), a, b, q_and, msk_e hw i ht, h2]
    exact b_t rfl ⟨by rw [q_in (by omega)]; omega, h⟩
  | succ k ih =>
    intro i hi
    obtain ⟨a, b, c⟩ := eS_N i (by omega)
    have e := msk_e hw i (by omega)
    have l : w &&& fixN i ≤ w := Nat.and_le_left
    rw [f_S_making_2]
    refine b_f (by rw [q_lit, q_le (by omega) (by omega)]; omega) ⟨by rw [q_in (by omega)]; omega, by rw [q_in (by omega)]; omega, ?_⟩
    rw [q_cl (by omega), a, b, q_and]
    refine b_f ?_ ?_
    · rw [q_eq (by omega) (by omega), e]
      exact h1 i (by omega)
    · simp (disch := omega) only [nm, q_lit, q_add]
      exact ih (i + 1) (by omega)
theorem mk_t {σ : SS} {w : Nat} (t : Nat) {post : Nat → SS → Prop} (hw : w < 65536) (ht : t < 35) (h1 : ∀ i, i < t → mskN i w ≠ bitN i) (h2 : mskN t w = bitN t) (h : post t σ) : f_S_making post σ (nI w) := ⟨t + 1, mk_L hw ht h1 h2 h t 0 (by omega)⟩
