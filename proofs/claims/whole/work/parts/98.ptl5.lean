/-! the pure side: tell, instructions of devices -/
theorem tl_34 {σ τ : SS} {w : Nat} (hd : w / 8192 = 3) (ha : 0 < w / 2048 % 4) (hq : w / 256 % 8 = 0 ∨ w / 256 % 8 = 7) : TL σ τ w (tx 4 ++ oct w) := by
  refine ⟨Nat.le_trans (dl_len 34 w (by omega)) (by omega), fun post k => c_desc 34 (by omega) (by omega) (by omega) (fun i hi => ?_) (by show 0 = 0; omega) k, fun post k => ?_⟩
  · match i, hi with
    | 0, _ => exact (by show 0 ≠ 1; omega : mskN 0 w ≠ bitN 0)
    | 1, _ => exact (by show 0 ≠ 1; omega : mskN 1 w ≠ bitN 1)
    | 2, _ => exact (by show w / 2048 * 2048 ≠ 0; omega : mskN 2 w ≠ bitN 2)
    | 3, _ => exact (by show w / 2048 * 2048 ≠ 2048; omega : mskN 3 w ≠ bitN 3)
    | 4, _ => exact (by show w / 2048 * 2048 ≠ 4096; omega : mskN 4 w ≠ bitN 4)
    | 5, _ => exact (by show w / 2048 * 2048 ≠ 6144; omega : mskN 5 w ≠ bitN 5)
    | 6, _ => exact (by show w / 8192 * 8192 ≠ 8192; omega : mskN 6 w ≠ bitN 6)
    | 7, _ => exact (by show w / 8192 * 8192 ≠ 16384; omega : mskN 7 w ≠ bitN 7)
    | 8, _ => exact (by show w / 32768 * 32768 + w / 256 % 8 * 256 ≠ 32768; omega : mskN 8 w ≠ bitN 8)
    | 9, _ => exact (by show w / 32768 * 32768 + w / 256 % 8 * 256 ≠ 33024; omega : mskN 9 w ≠ bitN 9)
    | 10, _ => exact (by show w / 32768 * 32768 + w / 256 % 8 * 256 ≠ 33280; omega : mskN 10 w ≠ bitN 10)
    | 11, _ => exact (by show w / 32768 * 32768 + w / 256 % 8 * 256 ≠ 33536; omega : mskN 11 w ≠ bitN 11)
    | 12, _ => exact (by show w / 32768 * 32768 + w / 256 % 8 * 256 ≠ 33792; omega : mskN 12 w ≠ bitN 12)
    | 13, _ => exact (by show w / 32768 * 32768 + w / 256 % 8 * 256 ≠ 34048; omega : mskN 13 w ≠ bitN 13)
    | 14, _ => exact (by show w / 32768 * 32768 + w / 256 % 8 * 256 ≠ 34304; omega : mskN 14 w ≠ bitN 14)
    | 15, _ => exact (by show w / 32768 * 32768 + w / 256 % 8 * 256 ≠ 34560; omega : mskN 15 w ≠ bitN 15)
    | 16, _ => exact (by show w ≠ 24703; omega : mskN 16 w ≠ bitN 16)
    | 17, _ => exact (by show w ≠ 24767; omega : mskN 17 w ≠ bitN 17)
    | 18, _ => exact (by show w ≠ 26175; omega : mskN 18 w ≠ bitN 18)
    | 19, _ => exact (by show w ≠ 25919; omega : mskN 19 w ≠ bitN 19)
    | 20, _ => exact (by show w / 8192 * 8192 + w % 2048 ≠ 24895; omega : mskN 20 w ≠ bitN 20)
    | 21, _ => exact (by show w / 8192 * 8192 + w % 2048 ≠ 25407; omega : mskN 21 w ≠ bitN 21)
    | 22, _ => exact (by show w / 8192 * 8192 + w % 2048 ≠ 25663; omega : mskN 22 w ≠ bitN 22)
    | 23, _ => exact (by show w / 256 * 256 ≠ 24576; omega : mskN 23 w ≠ bitN 23)
    | 24, _ => exact (by show w / 8192 * 8192 + w / 256 % 8 * 256 ≠ 24832; omega : mskN 24 w ≠ bitN 24)
    | 25, _ => exact (by show w / 8192 * 8192 + w / 256 % 8 * 256 ≠ 25088; omega : mskN 25 w ≠ bitN 25)
    | 26, _ => exact (by show w / 8192 * 8192 + w / 256 % 8 * 256 ≠ 25344; omega : mskN 26 w ≠ bitN 26)
    | 27, _ => exact (by show w / 8192 * 8192 + w / 256 % 8 * 256 ≠ 25600; omega : mskN 27 w ≠ bitN 27)
    | 28, _ => exact (by show w / 8192 * 8192 + w / 256 % 8 * 256 ≠ 25856; omega : mskN 28 w ≠ bitN 28)
    | 29, _ => exact (by show w / 8192 * 8192 + w / 256 % 8 * 256 ≠ 26112; omega : mskN 29 w ≠ bitN 29)
    | 30, _ => exact (by show w / 64 * 64 ≠ 26368; omega : mskN 30 w ≠ bitN 30)
    | 31, _ => exact (by show w / 64 * 64 ≠ 26432; omega : mskN 31 w ≠ bitN 31)
    | 32, _ => exact (by show w / 64 * 64 ≠ 26496; omega : mskN 32 w ≠ bitN 32)
    | 33, _ => exact (by show w / 64 * 64 ≠ 26560; omega : mskN 33 w ≠ bitN 33)
    | n + 34, h => exact absurd h (by omega)
  · have hx : tx 4 = [] := rfl
    rw [hx, List.nil_append] at k
    rcases hq with q | q
    · simp (disch := omega) only [f_R_tell_95, nm, q_lit, q_add, q_sub, q_subN, q_n1, q_mul, q_div, q_nm, q_and, q_or, q_xor, q_shr, q_shl, q_cl, q_a1, q_a3, q_a7, q_a31, q_a63, q_a255, q_a15, q_a16, q_a17, q_a2, q_a4, q_a8, q_a1024, q_a65536, Nat.reduceMod, Nat.reducePow, Nat.reduceDiv, Nat.reduceMul, Nat.reduceAdd, Nat.reduceSub, Nat.reduceEqDiff, q_ltT, q_ltF, q_leT, q_leF, q_eqT, q_eqF, q_inT, q_bz0, q_bz1, b_T, b_F, true_and, and_true, if_true, if_false, hd, q]
      exact rw_oct (rw_0 τ) (by simp) (by omega) (fun u1 g1 => k u1 g1)
    · simp (disch := omega) only [f_R_tell_95, nm, q_lit, q_add, q_sub, q_subN, q_n1, q_mul, q_div, q_nm, q_and, q_or, q_xor, q_shr, q_shl, q_cl, q_a1, q_a3, q_a7, q_a31, q_a63, q_a255, q_a15, q_a16, q_a17, q_a2, q_a4, q_a8, q_a1024, q_a65536, Nat.reduceMod, Nat.reducePow, Nat.reduceDiv, Nat.reduceMul, Nat.reduceAdd, Nat.reduceSub, Nat.reduceEqDiff, q_ltT, q_ltF, q_leT, q_leF, q_eqT, q_eqF, q_inT, q_bz0, q_bz1, b_T, b_F, true_and, and_true, if_true, if_false, hd, q]
      exact rw_oct (rw_0 τ) (by simp) (by omega) (fun u1 g1 => k u1 g1)
theorem tl_30 {σ τ : SS} {w : Nat} (hd : w / 8192 = 3) (ha : w / 2048 % 4 = 0) (hq : w / 256 % 8 = 7) (hc : w / 64 % 4 = 0) : TL σ τ w (tx 46 ++ ([32] ++ oct (w % 64))) := by
  refine ⟨Nat.le_trans (dl_len 30 w (by omega)) (by omega), fun post k => c_desc 30 (by omega) (by omega) (by omega) (fun i hi => ?_) (by show w / 64 * 64 = 26368; omega) k, fun post k => ?_⟩
  · match i, hi with
    | 0, _ => exact (by show 0 ≠ 1; omega : mskN 0 w ≠ bitN 0)
    | 1, _ => exact (by show 0 ≠ 1; omega : mskN 1 w ≠ bitN 1)
    | 2, _ => exact (by show w / 2048 * 2048 ≠ 0; omega : mskN 2 w ≠ bitN 2)
    | 3, _ => exact (by show w / 2048 * 2048 ≠ 2048; omega : mskN 3 w ≠ bitN 3)
    | 4, _ => exact (by show w / 2048 * 2048 ≠ 4096; omega : mskN 4 w ≠ bitN 4)
    | 5, _ => exact (by show w / 2048 * 2048 ≠ 6144; omega : mskN 5 w ≠ bitN 5)
    | 6, _ => exact (by show w / 8192 * 8192 ≠ 8192; omega : mskN 6 w ≠ bitN 6)
    | 7, _ => exact (by show w / 8192 * 8192 ≠ 16384; omega : mskN 7 w ≠ bitN 7)
    | 8, _ => exact (by show w / 32768 * 32768 + w / 256 % 8 * 256 ≠ 32768; omega : mskN 8 w ≠ bitN 8)
    | 9, _ => exact (by show w / 32768 * 32768 + w / 256 % 8 * 256 ≠ 33024; omega : mskN 9 w ≠ bitN 9)
    | 10, _ => exact (by show w / 32768 * 32768 + w / 256 % 8 * 256 ≠ 33280; omega : mskN 10 w ≠ bitN 10)
    | 11, _ => exact (by show w / 32768 * 32768 + w / 256 % 8 * 256 ≠ 33536; omega : mskN 11 w ≠ bitN 11)
    | 12, _ => exact (by show w / 32768 * 32768 + w / 256 % 8 * 256 ≠ 33792; omega : mskN 12 w ≠ bitN 12)
    | 13, _ => exact (by show w / 32768 * 32768 + w / 256 % 8 * 256 ≠ 34048; omega : mskN 13 w ≠ bitN 13)
    | 14, _ => exact (by show w / 32768 * 32768 + w / 256 % 8 * 256 ≠ 34304; omega : mskN 14 w ≠ bitN 14)
    | 15, _ => exact (by show w / 32768 * 32768 + w / 256 % 8 * 256 ≠ 34560; omega : mskN 15 w ≠ bitN 15)
    | 16, _ => exact (by show w ≠ 24703; omega : mskN 16 w ≠ bitN 16)
    | 17, _ => exact (by show w ≠ 24767; omega : mskN 17 w ≠ bitN 17)
    | 18, _ => exact (by show w ≠ 26175; omega : mskN 18 w ≠ bitN 18)
    | 19, _ => exact (by show w ≠ 25919; omega : mskN 19 w ≠ bitN 19)
    | 20, _ => exact (by show w / 8192 * 8192 + w % 2048 ≠ 24895; omega : mskN 20 w ≠ bitN 20)
    | 21, _ => exact (by show w / 8192 * 8192 + w % 2048 ≠ 25407; omega : mskN 21 w ≠ bitN 21)
    | 22, _ => exact (by show w / 8192 * 8192 + w % 2048 ≠ 25663; omega : mskN 22 w ≠ bitN 22)
    | 23, _ => exact (by show w / 256 * 256 ≠ 24576; omega : mskN 23 w ≠ bitN 23)
    | 24, _ => exact (by show w / 8192 * 8192 + w / 256 % 8 * 256 ≠ 24832; omega : mskN 24 w ≠ bitN 24)
    | 25, _ => exact (by show w / 8192 * 8192 + w / 256 % 8 * 256 ≠ 25088; omega : mskN 25 w ≠ bitN 25)
    | 26, _ => exact (by show w / 8192 * 8192 + w / 256 % 8 * 256 ≠ 25344; omega : mskN 26 w ≠ bitN 26)
    | 27, _ => exact (by show w / 8192 * 8192 + w / 256 % 8 * 256 ≠ 25600; omega : mskN 27 w ≠ bitN 27)
    | 28, _ => exact (by show w / 8192 * 8192 + w / 256 % 8 * 256 ≠ 25856; omega : mskN 28 w ≠ bitN 28)
    | 29, _ => exact (by show w / 8192 * 8192 + w / 256 % 8 * 256 ≠ 26112; omega : mskN 29 w ≠ bitN 29)
    | n + 30, h => exact absurd h (by omega)
  · have hx := tx_len 46 (by omega)
    simp (disch := omega) only [f_R_tell_103, f_R_sayDevice, f_R_sayDevice_67, nm, q_lit, q_add, q_sub, q_subN, q_n1, q_mul, q_div, q_nm, q_and, q_or, q_xor, q_shr, q_shl, q_cl, q_a1, q_a3, q_a7, q_a31, q_a63, q_a255, q_a15, q_a16, q_a17, q_a2, q_a4, q_a8, q_a1024, q_a65536, Nat.reduceMod, Nat.reducePow, Nat.reduceDiv, Nat.reduceMul, Nat.reduceAdd, Nat.reduceSub, Nat.reduceEqDiff, q_ltT, q_ltF, q_leT, q_leF, q_eqT, q_eqF, q_inT, q_bz0, q_bz1, b_T, b_F, true_and, and_true, if_true, if_false, hd, ha, hq, hc]
    refine rw_name (tx 46) nt_46 (tx_N _ (by omega) (by omega)) (rw_0 τ) (by simp) (fun u1 g1 => ?_)
    rw [List.nil_append] at g1
    refine rw_say g1 (by omega) (fun u2 g2 => ?_)
    refine rw_oct g2 (by simp only [List.length_append, List.length_cons, List.length_nil]; omega) (by omega) (fun u3 g3 => k u3 ?_)
    simpa only [List.append_assoc] using g3
theorem tl_31 {σ τ : SS} {w : Nat} (hd : w / 8192 = 3) (ha : w / 2048 % 4 = 0) (hq : w / 256 % 8 = 7) (hc : w / 64 % 4 = 1) : TL σ τ w (tx 47 ++ ([32] ++ oct (w % 64))) := by
  refine ⟨Nat.le_trans (dl_len 31 w (by omega)) (by omega), fun post k => c_desc 31 (by omega) (by omega) (by omega) (fun i hi => ?_) (by show w / 64 * 64 = 26432; omega) k, fun post k => ?_⟩
  · match i, hi with
    | 0, _ => exact (by show 0 ≠ 1; omega : mskN 0 w ≠ bitN 0)
    | 1, _ => exact (by show 0 ≠ 1; omega : mskN 1 w ≠ bitN 1)
    | 2, _ => exact (by show w / 2048 * 2048 ≠ 0; omega : mskN 2 w ≠ bitN 2)
    | 3, _ => exact (by show w / 2048 * 2048 ≠ 2048; omega : mskN 3 w ≠ bitN 3)
    | 4, _ => exact (by show w / 2048 * 2048 ≠ 4096; omega : mskN 4 w ≠ bitN 4)
    | 5, _ => exact (by show w / 2048 * 2048 ≠ 6144; omega : mskN 5 w ≠ bitN 5)
    | 6, _ => exact (by show w / 8192 * 8192 ≠ 8192; omega : mskN 6 w ≠ bitN 6)
    | 7, _ => exact (by show w / 8192 * 8192 ≠ 16384; omega : mskN 7 w ≠ bitN 7)
    | 8, _ => exact (by show w / 32768 * 32768 + w / 256 % 8 * 256 ≠ 32768; omega : mskN 8 w ≠ bitN 8)
    | 9, _ => exact (by show w / 32768 * 32768 + w / 256 % 8 * 256 ≠ 33024; omega : mskN 9 w ≠ bitN 9)
    | 10, _ => exact (by show w / 32768 * 32768 + w / 256 % 8 * 256 ≠ 33280; omega : mskN 10 w ≠ bitN 10)
    | 11, _ => exact (by show w / 32768 * 32768 + w / 256 % 8 * 256 ≠ 33536; omega : mskN 11 w ≠ bitN 11)
    | 12, _ => exact (by show w / 32768 * 32768 + w / 256 % 8 * 256 ≠ 33792; omega : mskN 12 w ≠ bitN 12)
    | 13, _ => exact (by show w / 32768 * 32768 + w / 256 % 8 * 256 ≠ 34048; omega : mskN 13 w ≠ bitN 13)
    | 14, _ => exact (by show w / 32768 * 32768 + w / 256 % 8 * 256 ≠ 34304; omega : mskN 14 w ≠ bitN 14)
    | 15, _ => exact (by show w / 32768 * 32768 + w / 256 % 8 * 256 ≠ 34560; omega : mskN 15 w ≠ bitN 15)
    | 16, _ => exact (by show w ≠ 24703; omega : mskN 16 w ≠ bitN 16)
    | 17, _ => exact (by show w ≠ 24767; omega : mskN 17 w ≠ bitN 17)
    | 18, _ => exact (by show w ≠ 26175; omega : mskN 18 w ≠ bitN 18)
    | 19, _ => exact (by show w ≠ 25919; omega : mskN 19 w ≠ bitN 19)
    | 20, _ => exact (by show w / 8192 * 8192 + w % 2048 ≠ 24895; omega : mskN 20 w ≠ bitN 20)
    | 21, _ => exact (by show w / 8192 * 8192 + w % 2048 ≠ 25407; omega : mskN 21 w ≠ bitN 21)
    | 22, _ => exact (by show w / 8192 * 8192 + w % 2048 ≠ 25663; omega : mskN 22 w ≠ bitN 22)
    | 23, _ => exact (by show w / 256 * 256 ≠ 24576; omega : mskN 23 w ≠ bitN 23)
    | 24, _ => exact (by show w / 8192 * 8192 + w / 256 % 8 * 256 ≠ 24832; omega : mskN 24 w ≠ bitN 24)
    | 25, _ => exact (by show w / 8192 * 8192 + w / 256 % 8 * 256 ≠ 25088; omega : mskN 25 w ≠ bitN 25)
    | 26, _ => exact (by show w / 8192 * 8192 + w / 256 % 8 * 256 ≠ 25344; omega : mskN 26 w ≠ bitN 26)
    | 27, _ => exact (by show w / 8192 * 8192 + w / 256 % 8 * 256 ≠ 25600; omega : mskN 27 w ≠ bitN 27)
    | 28, _ => exact (by show w / 8192 * 8192 + w / 256 % 8 * 256 ≠ 25856; omega : mskN 28 w ≠ bitN 28)
    | 29, _ => exact (by show w / 8192 * 8192 + w / 256 % 8 * 256 ≠ 26112; omega : mskN 29 w ≠ bitN 29)
    | 30, _ => exact (by show w / 64 * 64 ≠ 26368; omega : mskN 30 w ≠ bitN 30)
    | n + 31, h => exact absurd h (by omega)
  · have hx := tx_len 47 (by omega)
    simp (disch := omega) only [f_R_tell_103, f_R_sayDevice, f_R_sayDevice_67, nm, q_lit, q_add, q_sub, q_subN, q_n1, q_mul, q_div, q_nm, q_and, q_or, q_xor, q_shr, q_shl, q_cl, q_a1, q_a3, q_a7, q_a31, q_a63, q_a255, q_a15, q_a16, q_a17, q_a2, q_a4, q_a8, q_a1024, q_a65536, Nat.reduceMod, Nat.reducePow, Nat.reduceDiv, Nat.reduceMul, Nat.reduceAdd, Nat.reduceSub, Nat.reduceEqDiff, q_ltT, q_ltF, q_leT, q_leF, q_eqT, q_eqF, q_inT, q_bz0, q_bz1, b_T, b_F, true_and, and_true, if_true, if_false, hd, ha, hq, hc]
    refine rw_name (tx 47) nt_47 (tx_N _ (by omega) (by omega)) (rw_0 τ) (by simp) (fun u1 g1 => ?_)
    rw [List.nil_append] at g1
    refine rw_say g1 (by omega) (fun u2 g2 => ?_)
    refine rw_oct g2 (by simp only [List.length_append, List.length_cons, List.length_nil]; omega) (by omega) (fun u3 g3 => k u3 ?_)
    simpa only [List.append_assoc] using g3
theorem tl_32 {σ τ : SS} {w : Nat} (hd : w / 8192 = 3) (ha : w / 2048 % 4 = 0) (hq : w / 256 % 8 = 7) (hc : w / 64 % 4 = 2) : TL σ τ w (tx 48 ++ ([32] ++ oct (w % 64))) := by
  refine ⟨Nat.le_trans (dl_len 32 w (by omega)) (by omega), fun post k => c_desc 32 (by omega) (by omega) (by omega) (fun i hi => ?_) (by show w / 64 * 64 = 26496; omega) k, fun post k => ?_⟩
  · match i, hi with
    | 0, _ => exact (by show 0 ≠ 1; omega : mskN 0 w ≠ bitN 0)
    | 1, _ => exact (by show 0 ≠ 1; omega : mskN 1 w ≠ bitN 1)
    | 2, _ => exact (by show w / 2048 * 2048 ≠ 0; omega : mskN 2 w ≠ bitN 2)
    | 3, _ => exact (by show w / 2048 * 2048 ≠ 2048; omega : mskN 3 w ≠ bitN 3)
    | 4, _ => exact (by show w / 2048 * 2048 ≠ 4096; omega : mskN 4 w ≠ bitN 4)
    | 5, _ => exact (by show w / 2048 * 2048 ≠ 6144; omega : mskN 5 w ≠ bitN 5)
    | 6, _ => exact (by show w / 8192 * 8192 ≠ 8192; omega : mskN 6 w ≠ bitN 6)
    | 7, _ => exact (by show w / 8192 * 8192 ≠ 16384; omega : mskN 7 w ≠ bitN 7)
    | 8, _ => exact (by show w / 32768 * 32768 + w / 256 % 8 * 256 ≠ 32768; omega : mskN 8 w ≠ bitN 8)
    | 9, _ => exact (by show w / 32768 * 32768 + w / 256 % 8 * 256 ≠ 33024; omega : mskN 9 w ≠ bitN 9)
    | 10, _ => exact (by show w / 32768 * 32768 + w / 256 % 8 * 256 ≠ 33280; omega : mskN 10 w ≠ bitN 10)
    | 11, _ => exact (by show w / 32768 * 32768 + w / 256 % 8 * 256 ≠ 33536; omega : mskN 11 w ≠ bitN 11)
    | 12, _ => exact (by show w / 32768 * 32768 + w / 256 % 8 * 256 ≠ 33792; omega : mskN 12 w ≠ bitN 12)
    | 13, _ => exact (by show w / 32768 * 32768 + w / 256 % 8 * 256 ≠ 34048; omega : mskN 13 w ≠ bitN 13)
    | 14, _ => exact (by show w / 32768 * 32768 + w / 256 % 8 * 256 ≠ 34304; omega : mskN 14 w ≠ bitN 14)
    | 15, _ => exact (by show w / 32768 * 32768 + w / 256 % 8 * 256 ≠ 34560; omega : mskN 15 w ≠ bitN 15)
    | 16, _ => exact (by show w ≠ 24703; omega : mskN 16 w ≠ bitN 16)
    | 17, _ => exact (by show w ≠ 24767; omega : mskN 17 w ≠ bitN 17)
    | 18, _ => exact (by show w ≠ 26175; omega : mskN 18 w ≠ bitN 18)
    | 19, _ => exact (by show w ≠ 25919; omega : mskN 19 w ≠ bitN 19)
    | 20, _ => exact (by show w / 8192 * 8192 + w % 2048 ≠ 24895; omega : mskN 20 w ≠ bitN 20)
    | 21, _ => exact (by show w / 8192 * 8192 + w % 2048 ≠ 25407; omega : mskN 21 w ≠ bitN 21)
    | 22, _ => exact (by show w / 8192 * 8192 + w % 2048 ≠ 25663; omega : mskN 22 w ≠ bitN 22)
    | 23, _ => exact (by show w / 256 * 256 ≠ 24576; omega : mskN 23 w ≠ bitN 23)
    | 24, _ => exact (by show w / 8192 * 8192 + w / 256 % 8 * 256 ≠ 24832; omega : mskN 24 w ≠ bitN 24)
    | 25, _ => exact (by show w / 8192 * 8192 + w / 256 % 8 * 256 ≠ 25088; omega : mskN 25 w ≠ bitN 25)
    | 26, _ => exact (by show w / 8192 * 8192 + w / 256 % 8 * 256 ≠ 25344; omega : mskN 26 w ≠ bitN 26)
    | 27, _ => exact (by show w / 8192 * 8192 + w / 256 % 8 * 256 ≠ 25600; omega : mskN 27 w ≠ bitN 27)
    | 28, _ => exact (by show w / 8192 * 8192 + w / 256 % 8 * 256 ≠ 25856; omega : mskN 28 w ≠ bitN 28)
    | 29, _ => exact (by show w / 8192 * 8192 + w / 256 % 8 * 256 ≠ 26112; omega : mskN 29 w ≠ bitN 29)
    | 30, _ => exact (by show w / 64 * 64 ≠ 26368; omega : mskN 30 w ≠ bitN 30)
    | 31, _ => exact (by show w / 64 * 64 ≠ 26432; omega : mskN 31 w ≠ bitN 31)
    | n + 32, h => exact absurd h (by omega)
  · have hx := tx_len 48 (by omega)
    simp (disch := omega) only [f_R_tell_103, f_R_sayDevice, f_R_sayDevice_67, nm, q_lit, q_add, q_sub, q_subN, q_n1, q_mul, q_div, q_nm, q_and, q_or, q_xor, q_shr, q_shl, q_cl, q_a1, q_a3, q_a7, q_a31, q_a63, q_a255, q_a15, q_a16, q_a17, q_a2, q_a4, q_a8, q_a1024, q_a65536, Nat.reduceMod, Nat.reducePow, Nat.reduceDiv, Nat.reduceMul, Nat.reduceAdd, Nat.reduceSub, Nat.reduceEqDiff, q_ltT, q_ltF, q_leT, q_leF, q_eqT, q_eqF, q_inT, q_bz0, q_bz1, b_T, b_F, true_and, and_true, if_true, if_false, hd, ha, hq, hc]
    refine rw_name (tx 48) nt_48 (tx_N _ (by omega) (by omega)) (rw_0 τ) (by simp) (fun u1 g1 => ?_)
    rw [List.nil_append] at g1
    refine rw_say g1 (by omega) (fun u2 g2 => ?_)
    refine rw_oct g2 (by simp only [List.length_append, List.length_cons, List.length_nil]; omega) (by omega) (fun u3 g3 => k u3 ?_)
    simpa only [List.append_assoc] using g3
theorem tl_33 {σ τ : SS} {w : Nat} (hd : w / 8192 = 3) (ha : w / 2048 % 4 = 0) (hq : w / 256 % 8 = 7) (hc : w / 64 % 4 = 3) : TL σ τ w (tx 49 ++ ([32] ++ oct (w % 64))) := by
  refine ⟨Nat.le_trans (dl_len 33 w (by omega)) (by omega), fun post k => c_desc 33 (by omega) (by omega) (by omega) (fun i hi => ?_) (by show w / 64 * 64 = 26560; omega) k, fun post k => ?_⟩
  · match i, hi with
    | 0, _ => exact (by show 0 ≠ 1; omega : mskN 0 w ≠ bitN 0)
    | 1, _ => exact (by show 0 ≠ 1; omega : mskN 1 w ≠ bitN 1)
    | 2, _ => exact (by show w / 2048 * 2048 ≠ 0; omega : mskN 2 w ≠ bitN 2)
    | 3, _ => exact (by show w / 2048 * 2048 ≠ 2048; omega : mskN 3 w ≠ bitN 3)
    | 4, _ => exact (by show w / 2048 * 2048 ≠ 4096; omega : mskN 4 w ≠ bitN 4)
    | 5, _ => exact (by show w / 2048 * 2048 ≠ 6144; omega : mskN 5 w ≠ bitN 5)
    | 6, _ => exact (by show w / 8192 * 8192 ≠ 8192; omega : mskN 6 w ≠ bitN 6)
    | 7, _ => exact (by show w / 8192 * 8192 ≠ 16384; omega : mskN 7 w ≠ bitN 7)
    | 8, _ => exact (by show w / 32768 * 32768 + w / 256 % 8 * 256 ≠ 32768; omega : mskN 8 w ≠ bitN 8)
    | 9, _ => exact (by show w / 32768 * 32768 + w / 256 % 8 * 256 ≠ 33024; omega : mskN 9 w ≠ bitN 9)
    | 10, _ => exact (by show w / 32768 * 32768 + w / 256 % 8 * 256 ≠ 33280; omega : mskN 10 w ≠ bitN 10)
    | 11, _ => exact (by show w / 32768 * 32768 + w / 256 % 8 * 256 ≠ 33536; omega : mskN 11 w ≠ bitN 11)
    | 12, _ => exact (by show w / 32768 * 32768 + w / 256 % 8 * 256 ≠ 33792; omega : mskN 12 w ≠ bitN 12)
    | 13, _ => exact (by show w / 32768 * 32768 + w / 256 % 8 * 256 ≠ 34048; omega : mskN 13 w ≠ bitN 13)
    | 14, _ => exact (by show w / 32768 * 32768 + w / 256 % 8 * 256 ≠ 34304; omega : mskN 14 w ≠ bitN 14)
    | 15, _ => exact (by show w / 32768 * 32768 + w / 256 % 8 * 256 ≠ 34560; omega : mskN 15 w ≠ bitN 15)
    | 16, _ => exact (by show w ≠ 24703; omega : mskN 16 w ≠ bitN 16)
    | 17, _ => exact (by show w ≠ 24767; omega : mskN 17 w ≠ bitN 17)
    | 18, _ => exact (by show w ≠ 26175; omega : mskN 18 w ≠ bitN 18)
    | 19, _ => exact (by show w ≠ 25919; omega : mskN 19 w ≠ bitN 19)
    | 20, _ => exact (by show w / 8192 * 8192 + w % 2048 ≠ 24895; omega : mskN 20 w ≠ bitN 20)
    | 21, _ => exact (by show w / 8192 * 8192 + w % 2048 ≠ 25407; omega : mskN 21 w ≠ bitN 21)
    | 22, _ => exact (by show w / 8192 * 8192 + w % 2048 ≠ 25663; omega : mskN 22 w ≠ bitN 22)
    | 23, _ => exact (by show w / 256 * 256 ≠ 24576; omega : mskN 23 w ≠ bitN 23)
    | 24, _ => exact (by show w / 8192 * 8192 + w / 256 % 8 * 256 ≠ 24832; omega : mskN 24 w ≠ bitN 24)
    | 25, _ => exact (by show w / 8192 * 8192 + w / 256 % 8 * 256 ≠ 25088; omega : mskN 25 w ≠ bitN 25)
    | 26, _ => exact (by show w / 8192 * 8192 + w / 256 % 8 * 256 ≠ 25344; omega : mskN 26 w ≠ bitN 26)
    | 27, _ => exact (by show w / 8192 * 8192 + w / 256 % 8 * 256 ≠ 25600; omega : mskN 27 w ≠ bitN 27)
    | 28, _ => exact (by show w / 8192 * 8192 + w / 256 % 8 * 256 ≠ 25856; omega : mskN 28 w ≠ bitN 28)
    | 29, _ => exact (by show w / 8192 * 8192 + w / 256 % 8 * 256 ≠ 26112; omega : mskN 29 w ≠ bitN 29)
    | 30, _ => exact (by show w / 64 * 64 ≠ 26368; omega : mskN 30 w ≠ bitN 30)
    | 31, _ => exact (by show w / 64 * 64 ≠ 26432; omega : mskN 31 w ≠ bitN 31)
    | 32, _ => exact (by show w / 64 * 64 ≠ 26496; omega : mskN 32 w ≠ bitN 32)
    | n + 33, h => exact absurd h (by omega)
  · have hx := tx_len 49 (by omega)
    simp (disch := omega) only [f_R_tell_103, f_R_sayDevice, f_R_sayDevice_67, nm, q_lit, q_add, q_sub, q_subN, q_n1, q_mul, q_div, q_nm, q_and, q_or, q_xor, q_shr, q_shl, q_cl, q_a1, q_a3, q_a7, q_a31, q_a63, q_a255, q_a15, q_a16, q_a17, q_a2, q_a4, q_a8, q_a1024, q_a65536, Nat.reduceMod, Nat.reducePow, Nat.reduceDiv, Nat.reduceMul, Nat.reduceAdd, Nat.reduceSub, Nat.reduceEqDiff, q_ltT, q_ltF, q_leT, q_leF, q_eqT, q_eqF, q_inT, q_bz0, q_bz1, b_T, b_F, true_and, and_true, if_true, if_false, hd, ha, hq, hc]
    refine rw_name (tx 49) nt_49 (tx_N _ (by omega) (by omega)) (rw_0 τ) (by simp) (fun u1 g1 => ?_)
    rw [List.nil_append] at g1
    refine rw_say g1 (by omega) (fun u2 g2 => ?_)
    refine rw_oct g2 (by simp only [List.length_append, List.length_cons, List.length_nil]; omega) (by omega) (fun u3 g3 => k u3 ?_)
    simpa only [List.append_assoc] using g3
theorem tl_16 {σ τ : SS} {w : Nat} (hd : w / 8192 = 3) (ha : w / 2048 % 4 = 0) (hq : w / 256 % 8 = 0) (hc : w / 64 % 4 = 1) (h63 : w % 64 = 63) : TL σ τ w (tx 32 ++ []) := by
  refine ⟨Nat.le_trans (dl_len 16 w (by omega)) (by omega), fun post k => c_desc 16 (by omega) (by omega) (by omega) (fun i hi => ?_) (by show w = 24703; omega) k, fun post k => ?_⟩
  · match i, hi with
    | 0, _ => exact (by show 0 ≠ 1; omega : mskN 0 w ≠ bitN 0)
    | 1, _ => exact (by show 0 ≠ 1; omega : mskN 1 w ≠ bitN 1)
    | 2, _ => exact (by show w / 2048 * 2048 ≠ 0; omega : mskN 2 w ≠ bitN 2)
    | 3, _ => exact (by show w / 2048 * 2048 ≠ 2048; omega : mskN 3 w ≠ bitN 3)
    | 4, _ => exact (by show w / 2048 * 2048 ≠ 4096; omega : mskN 4 w ≠ bitN 4)
    | 5, _ => exact (by show w / 2048 * 2048 ≠ 6144; omega : mskN 5 w ≠ bitN 5)
    | 6, _ => exact (by show w / 8192 * 8192 ≠ 8192; omega : mskN 6 w ≠ bitN 6)
    | 7, _ => exact (by show w / 8192 * 8192 ≠ 16384; omega : mskN 7 w ≠ bitN 7)
    | 8, _ => exact (by show w / 32768 * 32768 + w / 256 % 8 * 256 ≠ 32768; omega : mskN 8 w ≠ bitN 8)
    | 9, _ => exact (by show w / 32768 * 32768 + w / 256 % 8 * 256 ≠ 33024; omega : mskN 9 w ≠ bitN 9)
    | 10, _ => exact (by show w / 32768 * 32768 + w / 256 % 8 * 256 ≠ 33280; omega : mskN 10 w ≠ bitN 10)
    | 11, _ => exact (by show w / 32768 * 32768 + w / 256 % 8 * 256 ≠ 33536; omega : mskN 11 w ≠ bitN 11)
    | 12, _ => exact (by show w / 32768 * 32768 + w / 256 % 8 * 256 ≠ 33792; omega : mskN 12 w ≠ bitN 12)
    | 13, _ => exact (by show w / 32768 * 32768 + w / 256 % 8 * 256 ≠ 34048; omega : mskN 13 w ≠ bitN 13)
    | 14, _ => exact (by show w / 32768 * 32768 + w / 256 % 8 * 256 ≠ 34304; omega : mskN 14 w ≠ bitN 14)
    | 15, _ => exact (by show w / 32768 * 32768 + w / 256 % 8 * 256 ≠ 34560; omega : mskN 15 w ≠ bitN 15)
    | n + 16, h => exact absurd h (by omega)
  · have hx := tx_len 32 (by omega)
    rw [List.append_nil] at k
    simp (disch := omega) only [f_R_tell_103, f_R_sayDevice, f_R_sayMachine, f_R_sayMachine_55, f_R_sayMachine_77, f_R_sayMachine_99, nm, q_lit, q_add, q_sub, q_subN, q_n1, q_mul, q_div, q_nm, q_and, q_or, q_xor, q_shr, q_shl, q_cl, q_a1, q_a3, q_a7, q_a31, q_a63, q_a255, q_a15, q_a16, q_a17, q_a2, q_a4, q_a8, q_a1024, q_a65536, Nat.reduceMod, Nat.reducePow, Nat.reduceDiv, Nat.reduceMul, Nat.reduceAdd, Nat.reduceSub, Nat.reduceEqDiff, q_ltT, q_ltF, q_leT, q_leF, q_eqT, q_eqF, q_inT, q_bz0, q_bz1, b_T, b_F, true_and, and_true, if_true, if_false, hd, ha, hq, hc, h63]
    exact rw_name (tx 32) nt_32 (tx_N _ (by omega) (by omega)) (rw_0 τ) (by simp) (fun u1 g1 => k u1 g1)
theorem tl_17 {σ τ : SS} {w : Nat} (hd : w / 8192 = 3) (ha : w / 2048 % 4 = 0) (hq : w / 256 % 8 = 0) (hc : w / 64 % 4 = 2) (h63 : w % 64 = 63) : TL σ τ w (tx 33 ++ []) := by
  refine ⟨Nat.le_trans (dl_len 17 w (by omega)) (by omega), fun post k => c_desc 17 (by omega) (by omega) (by omega) (fun i hi => ?_) (by show w = 24767; omega) k, fun post k => ?_⟩
  · match i, hi with
    | 0, _ => exact (by show 0 ≠ 1; omega : mskN 0 w ≠ bitN 0)
    | 1, _ => exact (by show 0 ≠ 1; omega : mskN 1 w ≠ bitN 1)
    | 2, _ => exact (by show w / 2048 * 2048 ≠ 0; omega : mskN 2 w ≠ bitN 2)
    | 3, _ => exact (by show w / 2048 * 2048 ≠ 2048; omega : mskN 3 w ≠ bitN 3)
    | 4, _ => exact (by show w / 2048 * 2048 ≠ 4096; omega : mskN 4 w ≠ bitN 4)
    | 5, _ => exact (by show w / 2048 * 2048 ≠ 6144; omega : mskN 5 w ≠ bitN 5)
    | 6, _ => exact (by show w / 8192 * 8192 ≠ 8192; omega : mskN 6 w ≠ bitN 6)
    | 7, _ => exact (by show w / 8192 * 8192 ≠ 16384; omega : mskN 7 w ≠ bitN 7)
    | 8, _ => exact (by show w / 32768 * 32768 + w / 256 % 8 * 256 ≠ 32768; omega : mskN 8 w ≠ bitN 8)
    | 9, _ => exact (by show w / 32768 * 32768 + w / 256 % 8 * 256 ≠ 33024; omega : mskN 9 w ≠ bitN 9)
    | 10, _ => exact (by show w / 32768 * 32768 + w / 256 % 8 * 256 ≠ 33280; omega : mskN 10 w ≠ bitN 10)
    | 11, _ => exact (by show w / 32768 * 32768 + w / 256 % 8 * 256 ≠ 33536; omega : mskN 11 w ≠ bitN 11)
    | 12, _ => exact (by show w / 32768 * 32768 + w / 256 % 8 * 256 ≠ 33792; omega : mskN 12 w ≠ bitN 12)
    | 13, _ => exact (by show w / 32768 * 32768 + w / 256 % 8 * 256 ≠ 34048; omega : mskN 13 w ≠ bitN 13)
    | 14, _ => exact (by show w / 32768 * 32768 + w / 256 % 8 * 256 ≠ 34304; omega : mskN 14 w ≠ bitN 14)
    | 15, _ => exact (by show w / 32768 * 32768 + w / 256 % 8 * 256 ≠ 34560; omega : mskN 15 w ≠ bitN 15)
    | 16, _ => exact (by show w ≠ 24703; omega : mskN 16 w ≠ bitN 16)
    | n + 17, h => exact absurd h (by omega)
  · have hx := tx_len 33 (by omega)
    rw [List.append_nil] at k
    simp (disch := omega) only [f_R_tell_103, f_R_sayDevice, f_R_sayMachine, f_R_sayMachine_55, f_R_sayMachine_77, f_R_sayMachine_99, nm, q_lit, q_add, q_sub, q_subN, q_n1, q_mul, q_div, q_nm, q_and, q_or, q_xor, q_shr, q_shl, q_cl, q_a1, q_a3, q_a7, q_a31, q_a63, q_a255, q_a15, q_a16, q_a17, q_a2, q_a4, q_a8, q_a1024, q_a65536, Nat.reduceMod, Nat.reducePow, Nat.reduceDiv, Nat.reduceMul, Nat.reduceAdd, Nat.reduceSub, Nat.reduceEqDiff, q_ltT, q_ltF, q_leT, q_leF, q_eqT, q_eqF, q_inT, q_bz0, q_bz1, b_T, b_F, true_and, and_true, if_true, if_false, hd, ha, hq, hc, h63]
    exact rw_name (tx 33) nt_33 (tx_N _ (by omega) (by omega)) (rw_0 τ) (by simp) (fun u1 g1 => k u1 g1)
theorem tl_18 {σ τ : SS} {w : Nat} (hd : w / 8192 = 3) (ha : w / 2048 % 4 = 0) (hq : w / 256 % 8 = 6) (hc : w / 64 % 4 = 0) (h63 : w % 64 = 63) : TL σ τ w (tx 34 ++ []) := by
  refine ⟨Nat.le_trans (dl_len 18 w (by omega)) (by omega), fun post k => c_desc 18 (by omega) (by omega) (by omega) (fun i hi => ?_) (by show w = 26175; omega) k, fun post k => ?_⟩
  · match i, hi with
    | 0, _ => exact (by show 0 ≠ 1; omega : mskN 0 w ≠ bitN 0)
    | 1, _ => exact (by show 0 ≠ 1; omega : mskN 1 w ≠ bitN 1)
    | 2, _ => exact (by show w / 2048 * 2048 ≠ 0; omega : mskN 2 w ≠ bitN 2)
    | 3, _ => exact (by show w / 2048 * 2048 ≠ 2048; omega : mskN 3 w ≠ bitN 3)
    | 4, _ => exact (by show w / 2048 * 2048 ≠ 4096; omega : mskN 4 w ≠ bitN 4)
    | 5, _ => exact (by show w / 2048 * 2048 ≠ 6144; omega : mskN 5 w ≠ bitN 5)
    | 6, _ => exact (by show w / 8192 * 8192 ≠ 8192; omega : mskN 6 w ≠ bitN 6)
    | 7, _ => exact (by show w / 8192 * 8192 ≠ 16384; omega : mskN 7 w ≠ bitN 7)
    | 8, _ => exact (by show w / 32768 * 32768 + w / 256 % 8 * 256 ≠ 32768; omega : mskN 8 w ≠ bitN 8)
    | 9, _ => exact (by show w / 32768 * 32768 + w / 256 % 8 * 256 ≠ 33024; omega : mskN 9 w ≠ bitN 9)
    | 10, _ => exact (by show w / 32768 * 32768 + w / 256 % 8 * 256 ≠ 33280; omega : mskN 10 w ≠ bitN 10)
    | 11, _ => exact (by show w / 32768 * 32768 + w / 256 % 8 * 256 ≠ 33536; omega : mskN 11 w ≠ bitN 11)
    | 12, _ => exact (by show w / 32768 * 32768 + w / 256 % 8 * 256 ≠ 33792; omega : mskN 12 w ≠ bitN 12)
    | 13, _ => exact (by show w / 32768 * 32768 + w / 256 % 8 * 256 ≠ 34048; omega : mskN 13 w ≠ bitN 13)
    | 14, _ => exact (by show w / 32768 * 32768 + w / 256 % 8 * 256 ≠ 34304; omega : mskN 14 w ≠ bitN 14)
    | 15, _ => exact (by show w / 32768 * 32768 + w / 256 % 8 * 256 ≠ 34560; omega : mskN 15 w ≠ bitN 15)
    | 16, _ => exact (by show w ≠ 24703; omega : mskN 16 w ≠ bitN 16)
    | 17, _ => exact (by show w ≠ 24767; omega : mskN 17 w ≠ bitN 17)
    | n + 18, h => exact absurd h (by omega)
  · have hx := tx_len 34 (by omega)
    rw [List.append_nil] at k
    simp (disch := omega) only [f_R_tell_103, f_R_sayDevice, f_R_sayMachine, f_R_sayMachine_55, f_R_sayMachine_77, f_R_sayMachine_99, nm, q_lit, q_add, q_sub, q_subN, q_n1, q_mul, q_div, q_nm, q_and, q_or, q_xor, q_shr, q_shl, q_cl, q_a1, q_a3, q_a7, q_a31, q_a63, q_a255, q_a15, q_a16, q_a17, q_a2, q_a4, q_a8, q_a1024, q_a65536, Nat.reduceMod, Nat.reducePow, Nat.reduceDiv, Nat.reduceMul, Nat.reduceAdd, Nat.reduceSub, Nat.reduceEqDiff, q_ltT, q_ltF, q_leT, q_leF, q_eqT, q_eqF, q_inT, q_bz0, q_bz1, b_T, b_F, true_and, and_true, if_true, if_false, hd, ha, hq, hc, h63]
    exact rw_name (tx 34) nt_34 (tx_N _ (by omega) (by omega)) (rw_0 τ) (by simp) (fun u1 g1 => k u1 g1)
theorem tl_19 {σ τ : SS} {w : Nat} (hd : w / 8192 = 3) (ha : w / 2048 % 4 = 0) (hq : w / 256 % 8 = 5) (hc : w / 64 % 4 = 0) (h63 : w % 64 = 63) : TL σ τ w (tx 35 ++ []) := by
  refine ⟨Nat.le_trans (dl_len 19 w (by omega)) (by omega), fun post k => c_desc 19 (by omega) (by omega) (by omega) (fun i hi => ?_) (by show w = 25919; omega) k, fun post k => ?_⟩
  · match i, hi with
    | 0, _ => exact (by show 0 ≠ 1; omega : mskN 0 w ≠ bitN 0)
    | 1, _ => exact (by show 0 ≠ 1; omega : mskN 1 w ≠ bitN 1)
    | 2, _ => exact (by show w / 2048 * 2048 ≠ 0; omega : mskN 2 w ≠ bitN 2)
    | 3, _ => exact (by show w / 2048 * 2048 ≠ 2048; omega : mskN 3 w ≠ bitN 3)
    | 4, _ => exact (by show w / 2048 * 2048 ≠ 4096; omega : mskN 4 w ≠ bitN 4)
    | 5, _ => exact (by show w / 2048 * 2048 ≠ 6144; omega : mskN 5 w ≠ bitN 5)
    | 6, _ => exact (by show w / 8192 * 8192 ≠ 8192; omega : mskN 6 w ≠ bitN 6)
    | 7, _ => exact (by show w / 8192 * 8192 ≠ 16384; omega : mskN 7 w ≠ bitN 7)
    | 8, _ => exact (by show w / 32768 * 32768 + w / 256 % 8 * 256 ≠ 32768; omega : mskN 8 w ≠ bitN 8)
    | 9, _ => exact (by show w / 32768 * 32768 + w / 256 % 8 * 256 ≠ 33024; omega : mskN 9 w ≠ bitN 9)
    | 10, _ => exact (by show w / 32768 * 32768 + w / 256 % 8 * 256 ≠ 33280; omega : mskN 10 w ≠ bitN 10)
    | 11, _ => exact (by show w / 32768 * 32768 + w / 256 % 8 * 256 ≠ 33536; omega : mskN 11 w ≠ bitN 11)
    | 12, _ => exact (by show w / 32768 * 32768 + w / 256 % 8 * 256 ≠ 33792; omega : mskN 12 w ≠ bitN 12)
    | 13, _ => exact (by show w / 32768 * 32768 + w / 256 % 8 * 256 ≠ 34048; omega : mskN 13 w ≠ bitN 13)
    | 14, _ => exact (by show w / 32768 * 32768 + w / 256 % 8 * 256 ≠ 34304; omega : mskN 14 w ≠ bitN 14)
    | 15, _ => exact (by show w / 32768 * 32768 + w / 256 % 8 * 256 ≠ 34560; omega : mskN 15 w ≠ bitN 15)
    | 16, _ => exact (by show w ≠ 24703; omega : mskN 16 w ≠ bitN 16)
    | 17, _ => exact (by show w ≠ 24767; omega : mskN 17 w ≠ bitN 17)
    | 18, _ => exact (by show w ≠ 26175; omega : mskN 18 w ≠ bitN 18)
    | n + 19, h => exact absurd h (by omega)
  · have hx := tx_len 35 (by omega)
    rw [List.append_nil] at k
    simp (disch := omega) only [f_R_tell_103, f_R_sayDevice, f_R_sayMachine, f_R_sayMachine_55, f_R_sayMachine_77, f_R_sayMachine_99, nm, q_lit, q_add, q_sub, q_subN, q_n1, q_mul, q_div, q_nm, q_and, q_or, q_xor, q_shr, q_shl, q_cl, q_a1, q_a3, q_a7, q_a31, q_a63, q_a255, q_a15, q_a16, q_a17, q_a2, q_a4, q_a8, q_a1024, q_a65536, Nat.reduceMod, Nat.reducePow, Nat.reduceDiv, Nat.reduceMul, Nat.reduceAdd, Nat.reduceSub, Nat.reduceEqDiff, q_ltT, q_ltF, q_leT, q_leF, q_eqT, q_eqF, q_inT, q_bz0, q_bz1, b_T, b_F, true_and, and_true, if_true, if_false, hd, ha, hq, hc, h63]
    exact rw_name (tx 35) nt_35 (tx_N _ (by omega) (by omega)) (rw_0 τ) (by simp) (fun u1 g1 => k u1 g1)
theorem tl_20 {σ τ : SS} {w : Nat} (hd : w / 8192 = 3) (hq : w / 256 % 8 = 1) (hc : w / 64 % 4 = 0) (h63 : w % 64 = 63) : TL σ τ w (tx 36 ++ ([32] ++ oct (w / 2048 % 4))) := by
  refine ⟨Nat.le_trans (dl_len 20 w (by omega)) (by omega), fun post k => c_desc 20 (by omega) (by omega) (by omega) (fun i hi => ?_) (by show w / 8192 * 8192 + w % 2048 = 24895; omega) k, fun post k => ?_⟩
  · match i, hi with
    | 0, _ => exact (by show 0 ≠ 1; omega : mskN 0 w ≠ bitN 0)
    | 1, _ => exact (by show 0 ≠ 1; omega : mskN 1 w ≠ bitN 1)
    | 2, _ => exact (by show w / 2048 * 2048 ≠ 0; omega : mskN 2 w ≠ bitN 2)
    | 3, _ => exact (by show w / 2048 * 2048 ≠ 2048; omega : mskN 3 w ≠ bitN 3)
    | 4, _ => exact (by show w / 2048 * 2048 ≠ 4096; omega : mskN 4 w ≠ bitN 4)
    | 5, _ => exact (by show w / 2048 * 2048 ≠ 6144; omega : mskN 5 w ≠ bitN 5)
    | 6, _ => exact (by show w / 8192 * 8192 ≠ 8192; omega : mskN 6 w ≠ bitN 6)
    | 7, _ => exact (by show w / 8192 * 8192 ≠ 16384; omega : mskN 7 w ≠ bitN 7)
    | 8, _ => exact (by show w / 32768 * 32768 + w / 256 % 8 * 256 ≠ 32768; omega : mskN 8 w ≠ bitN 8)
    | 9, _ => exact (by show w / 32768 * 32768 + w / 256 % 8 * 256 ≠ 33024; omega : mskN 9 w ≠ bitN 9)
    | 10, _ => exact (by show w / 32768 * 32768 + w / 256 % 8 * 256 ≠ 33280; omega : mskN 10 w ≠ bitN 10)
    | 11, _ => exact (by show w / 32768 * 32768 + w / 256 % 8 * 256 ≠ 33536; omega : mskN 11 w ≠ bitN 11)
    | 12, _ => exact (by show w / 32768 * 32768 + w / 256 % 8 * 256 ≠ 33792; omega : mskN 12 w ≠ bitN 12)
    | 13, _ => exact (by show w / 32768 * 32768 + w / 256 % 8 * 256 ≠ 34048; omega : mskN 13 w ≠ bitN 13)
    | 14, _ => exact (by show w / 32768 * 32768 + w / 256 % 8 * 256 ≠ 34304; omega : mskN 14 w ≠ bitN 14)
    | 15, _ => exact (by show w / 32768 * 32768 + w / 256 % 8 * 256 ≠ 34560; omega : mskN 15 w ≠ bitN 15)
    | 16, _ => exact (by show w ≠ 24703; omega : mskN 16 w ≠ bitN 16)
    | 17, _ => exact (by show w ≠ 24767; omega : mskN 17 w ≠ bitN 17)
    | 18, _ => exact (by show w ≠ 26175; omega : mskN 18 w ≠ bitN 18)
    | 19, _ => exact (by show w ≠ 25919; omega : mskN 19 w ≠ bitN 19)
    | n + 20, h => exact absurd h (by omega)
  · have hx := tx_len 36 (by omega)
    have key : ∀ q : SS → Prop, (∀ v', RW τ (tx 36 ++ ([32] ++ oct (w / 2048 % 4))) v' → q v') → f_R_sayDevice q (sI τ 28 0) (nI w) := by
      intro q k
      simp (disch := omega) only [f_R_sayDevice, f_R_sayMachine, f_R_sayMachine_137, nm, q_lit, q_add, q_sub, q_subN, q_n1, q_mul, q_div, q_nm, q_and, q_or, q_xor, q_shr, q_shl, q_cl, q_a1, q_a3, q_a7, q_a31, q_a63, q_a255, q_a15, q_a16, q_a17, q_a2, q_a4, q_a8, q_a1024, q_a65536, Nat.reduceMod, Nat.reducePow, Nat.reduceDiv, Nat.reduceMul, Nat.reduceAdd, Nat.reduceSub, Nat.reduceEqDiff, q_ltT, q_ltF, q_leT, q_leF, q_eqT, q_eqF, q_inT, q_bz0, q_bz1, b_T, b_F, true_and, and_true, if_true, if_false, hq, hc, h63]
      refine rw_name (tx 36) nt_36 (tx_N _ (by omega) (by omega)) (rw_0 τ) (by simp) (fun u1 g1 => ?_)
      rw [List.nil_append] at g1
      refine rw_say g1 (by omega) (fun u2 g2 => ?_)
      refine rw_oct g2 (by simp only [List.length_append, List.length_cons, List.length_nil]; omega) (by omega) (fun u3 g3 => k u3 ?_)
      simpa only [List.append_assoc] using g3
    by_cases ha : w / 2048 % 4 = 0
    · simp (disch := omega) only [f_R_tell_103, nm, q_lit, q_add, q_sub, q_subN, q_n1, q_mul, q_div, q_nm, q_and, q_or, q_xor, q_shr, q_shl, q_cl, q_a1, q_a3, q_a7, q_a31, q_a63, q_a255, q_a15, q_a16, q_a17, q_a2, q_a4, q_a8, q_a1024, q_a65536, Nat.reduceMod, Nat.reducePow, Nat.reduceDiv, Nat.reduceMul, Nat.reduceAdd, Nat.reduceSub, Nat.reduceEqDiff, q_ltT, q_ltF, q_leT, q_leF, q_eqT, q_eqF, q_inT, q_bz0, q_bz1, b_T, b_F, true_and, and_true, if_true, if_false, hd, ha, hq]
      exact key _ k
    · simp (disch := omega) only [f_R_tell_103, nm, q_lit, q_add, q_sub, q_subN, q_n1, q_mul, q_div, q_nm, q_and, q_or, q_xor, q_shr, q_shl, q_cl, q_a1, q_a3, q_a7, q_a31, q_a63, q_a255, q_a15, q_a16, q_a17, q_a2, q_a4, q_a8, q_a1024, q_a65536, Nat.reduceMod, Nat.reducePow, Nat.reduceDiv, Nat.reduceMul, Nat.reduceAdd, Nat.reduceSub, Nat.reduceEqDiff, q_ltT, q_ltF, q_leT, q_leF, q_eqT, q_eqF, q_inT, q_bz0, q_bz1, b_T, b_F, true_and, and_true, if_true, if_false, hd, hq]
      exact key _ k
theorem tl_21 {σ τ : SS} {w : Nat} (hd : w / 8192 = 3) (hq : w / 256 % 8 = 3) (hc : w / 64 % 4 = 0) (h63 : w % 64 = 63) : TL σ τ w (tx 37 ++ ([32] ++ oct (w / 2048 % 4))) := by
  refine ⟨Nat.le_trans (dl_len 21 w (by omega)) (by omega), fun post k => c_desc 21 (by omega) (by omega) (by omega) (fun i hi => ?_) (by show w / 8192 * 8192 + w % 2048 = 25407; omega) k, fun post k => ?_⟩
  · match i, hi with
    | 0, _ => exact (by show 0 ≠ 1; omega : mskN 0 w ≠ bitN 0)
    | 1, _ => exact (by show 0 ≠ 1; omega : mskN 1 w ≠ bitN 1)
    | 2, _ => exact (by show w / 2048 * 2048 ≠ 0; omega : mskN 2 w ≠ bitN 2)
    | 3, _ => exact (by show w / 2048 * 2048 ≠ 2048; omega : mskN 3 w ≠ bitN 3)
    | 4, _ => exact (by show w / 2048 * 2048 ≠ 4096; omega : mskN 4 w ≠ bitN 4)
    | 5, _ => exact (by show w / 2048 * 2048 ≠ 6144; omega : mskN 5 w ≠ bitN 5)
    | 6, _ => exact (by show w / 8192 * 8192 ≠ 8192; omega : mskN 6 w ≠ bitN 6)
    | 7, _ => exact (by show w / 8192 * 8192 ≠ 16384; omega : mskN 7 w ≠ bitN 7)
    | 8, _ => exact (by show w / 32768 * 32768 + w / 256 % 8 * 256 ≠ 32768; omega : mskN 8 w ≠ bitN 8)
    | 9, _ => exact (by show w / 32768 * 32768 + w / 256 % 8 * 256 ≠ 33024; omega : mskN 9 w ≠ bitN 9)
    | 10, _ => exact (by show w / 32768 * 32768 + w / 256 % 8 * 256 ≠ 33280; omega : mskN 10 w ≠ bitN 10)
    | 11, _ => exact (by show w / 32768 * 32768 + w / 256 % 8 * 256 ≠ 33536; omega : mskN 11 w ≠ bitN 11)
    | 12, _ => exact (by show w / 32768 * 32768 + w / 256 % 8 * 256 ≠ 33792; omega : mskN 12 w ≠ bitN 12)
    | 13, _ => exact (by show w / 32768 * 32768 + w / 256 % 8 * 256 ≠ 34048; omega : mskN 13 w ≠ bitN 13)
    | 14, _ => exact (by show w / 32768 * 32768 + w / 256 % 8 * 256 ≠ 34304; omega : mskN 14 w ≠ bitN 14)
    | 15, _ => exact (by show w / 32768 * 32768 + w / 256 % 8 * 256 ≠ 34560; omega : mskN 15 w ≠ bitN 15)
    | 16, _ => exact (by show w ≠ 24703; omega : mskN 16 w ≠ bitN 16)
    | 17, _ => exact (by show w ≠ 24767; omega : mskN 17 w ≠ bitN 17)
    | 18, _ => exact (by show w ≠ 26175; omega : mskN 18 w ≠ bitN 18)
    | 19, _ => exact (by show w ≠ 25919; omega : mskN 19 w ≠ bitN 19)
    | 20, _ => exact (by show w / 8192 * 8192 + w % 2048 ≠ 24895; omega : mskN 20 w ≠ bitN 20)
    | n + 21, h => exact absurd h (by omega)
  · have hx := tx_len 37 (by omega)
    have key : ∀ q : SS → Prop, (∀ v', RW τ (tx 37 ++ ([32] ++ oct (w / 2048 % 4))) v' → q v') → f_R_sayDevice q (sI τ 28 0) (nI w) := by
      intro q k
      simp (disch := omega) only [f_R_sayDevice, f_R_sayMachine, f_R_sayMachine_137, nm, q_lit, q_add, q_sub, q_subN, q_n1, q_mul, q_div, q_nm, q_and, q_or, q_xor, q_shr, q_shl, q_cl, q_a1, q_a3, q_a7, q_a31, q_a63, q_a255, q_a15, q_a16, q_a17, q_a2, q_a4, q_a8, q_a1024, q_a65536, Nat.reduceMod, Nat.reducePow, Nat.reduceDiv, Nat.reduceMul, Nat.reduceAdd, Nat.reduceSub, Nat.reduceEqDiff, q_ltT, q_ltF, q_leT, q_leF, q_eqT, q_eqF, q_inT, q_bz0, q_bz1, b_T, b_F, true_and, and_true, if_true, if_false, hq, hc, h63]
      refine rw_name (tx 37) nt_37 (tx_N _ (by omega) (by omega)) (rw_0 τ) (by simp) (fun u1 g1 => ?_)
      rw [List.nil_append] at g1
      refine rw_say g1 (by omega) (fun u2 g2 => ?_)
      refine rw_oct g2 (by simp only [List.length_append, List.length_cons, List.length_nil]; omega) (by omega) (fun u3 g3 => k u3 ?_)
      simpa only [List.append_assoc] using g3
    by_cases ha : w / 2048 % 4 = 0
    · simp (disch := omega) only [f_R_tell_103, nm, q_lit, q_add, q_sub, q_subN, q_n1, q_mul, q_div, q_nm, q_and, q_or, q_xor, q_shr, q_shl, q_cl, q_a1, q_a3, q_a7, q_a31, q_a63, q_a255, q_a15, q_a16, q_a17, q_a2, q_a4, q_a8, q_a1024, q_a65536, Nat.reduceMod, Nat.reducePow, Nat.reduceDiv, Nat.reduceMul, Nat.reduceAdd, Nat.reduceSub, Nat.reduceEqDiff, q_ltT, q_ltF, q_leT, q_leF, q_eqT, q_eqF, q_inT, q_bz0, q_bz1, b_T, b_F, true_and, and_true, if_true, if_false, hd, ha, hq]
      exact key _ k
    · simp (disch := omega) only [f_R_tell_103, nm, q_lit, q_add, q_sub, q_subN, q_n1, q_mul, q_div, q_nm, q_and, q_or, q_xor, q_shr, q_shl, q_cl, q_a1, q_a3, q_a7, q_a31, q_a63, q_a255, q_a15, q_a16, q_a17, q_a2, q_a4, q_a8, q_a1024, q_a65536, Nat.reduceMod, Nat.reducePow, Nat.reduceDiv, Nat.reduceMul, Nat.reduceAdd, Nat.reduceSub, Nat.reduceEqDiff, q_ltT, q_ltF, q_leT, q_leF, q_eqT, q_eqF, q_inT, q_bz0, q_bz1, b_T, b_F, true_and, and_true, if_true, if_false, hd, hq]
      exact key _ k
theorem tl_22 {σ τ : SS} {w : Nat} (hd : w / 8192 = 3) (hq : w / 256 % 8 = 4) (hc : w / 64 % 4 = 0) (h63 : w % 64 = 63) : TL σ τ w (tx 38 ++ ([32] ++ oct (w / 2048 % 4))) := by
  refine ⟨Nat.le_trans (dl_len 22 w (by omega)) (by omega), fun post k => c_desc 22 (by omega) (by omega) (by omega) (fun i hi => ?_) (by show w / 8192 * 8192 + w % 2048 = 25663; omega) k, fun post k => ?_⟩
  · match i, hi with
    | 0, _ => exact (by show 0 ≠ 1; omega : mskN 0 w ≠ bitN 0)
    | 1, _ => exact (by show 0 ≠ 1; omega : mskN 1 w ≠ bitN 1)
    | 2, _ => exact (by show w / 2048 * 2048 ≠ 0; omega : mskN 2 w ≠ bitN 2)
    | 3, _ => exact (by show w / 2048 * 2048 ≠ 2048; omega : mskN 3 w ≠ bitN 3)
    | 4, _ => exact (by show w / 2048 * 2048 ≠ 4096; omega : mskN 4 w ≠ bitN 4)
    | 5, _ => exact (by show w / 2048 * 2048 ≠ 6144; omega : mskN 5 w ≠ bitN 5)
    | 6, _ => exact (by show w / 8192 * 8192 ≠ 8192; omega : mskN 6 w ≠ bitN 6)
    | 7, _ => exact (by show w / 8192 * 8192 ≠ 16384; omega : mskN 7 w ≠ bitN 7)
    | 8, _ => exact (by show w / 32768 * 32768 + w / 256 % 8 * 256 ≠ 32768; omega : mskN 8 w ≠ bitN 8)
    | 9, _ => exact (by show w / 32768 * 32768 + w / 256 % 8 * 256 ≠ 33024; omega : mskN 9 w ≠ bitN 9)
    | 10, _ => exact (by show w / 32768 * 32768 + w / 256 % 8 * 256 ≠ 33280; omega : mskN 10 w ≠ bitN 10)
    | 11, _ => exact (by show w / 32768 * 32768 + w / 256 % 8 * 256 ≠ 33536; omega : mskN 11 w ≠ bitN 11)
    | 12, _ => exact (by show w / 32768 * 32768 + w / 256 % 8 * 256 ≠ 33792; omega : mskN 12 w ≠ bitN 12)
    | 13, _ => exact (by show w / 32768 * 32768 + w / 256 % 8 * 256 ≠ 34048; omega : mskN 13 w ≠ bitN 13)
    | 14, _ => exact (by show w / 32768 * 32768 + w / 256 % 8 * 256 ≠ 34304; omega : mskN 14 w ≠ bitN 14)
    | 15, _ => exact (by show w / 32768 * 32768 + w / 256 % 8 * 256 ≠ 34560; omega : mskN 15 w ≠ bitN 15)
    | 16, _ => exact (by show w ≠ 24703; omega : mskN 16 w ≠ bitN 16)
    | 17, _ => exact (by show w ≠ 24767; omega : mskN 17 w ≠ bitN 17)
    | 18, _ => exact (by show w ≠ 26175; omega : mskN 18 w ≠ bitN 18)
    | 19, _ => exact (by show w ≠ 25919; omega : mskN 19 w ≠ bitN 19)
    | 20, _ => exact (by show w / 8192 * 8192 + w % 2048 ≠ 24895; omega : mskN 20 w ≠ bitN 20)
    | 21, _ => exact (by show w / 8192 * 8192 + w % 2048 ≠ 25407; omega : mskN 21 w ≠ bitN 21)
    | n + 22, h => exact absurd h (by omega)
  · have hx := tx_len 38 (by omega)
    have key : ∀ q : SS → Prop, (∀ v', RW τ (tx 38 ++ ([32] ++ oct (w / 2048 % 4))) v' → q v') → f_R_sayDevice q (sI τ 28 0) (nI w) := by
      intro q k
      simp (disch := omega) only [f_R_sayDevice, f_R_sayMachine, f_R_sayMachine_137, nm, q_lit, q_add, q_sub, q_subN, q_n1, q_mul, q_div, q_nm, q_and, q_or, q_xor, q_shr, q_shl, q_cl, q_a1, q_a3, q_a7, q_a31, q_a63, q_a255, q_a15, q_a16, q_a17, q_a2, q_a4, q_a8, q_a1024, q_a65536, Nat.reduceMod, Nat.reducePow, Nat.reduceDiv, Nat.reduceMul, Nat.reduceAdd, Nat.reduceSub, Nat.reduceEqDiff, q_ltT, q_ltF, q_leT, q_leF, q_eqT, q_eqF, q_inT, q_bz0, q_bz1, b_T, b_F, true_and, and_true, if_true, if_false, hq, hc, h63]
      refine rw_name (tx 38) nt_38 (tx_N _ (by omega) (by omega)) (rw_0 τ) (by simp) (fun u1 g1 => ?_)
      rw [List.nil_append] at g1
      refine rw_say g1 (by omega) (fun u2 g2 => ?_)
      refine rw_oct g2 (by simp only [List.length_append, List.length_cons, List.length_nil]; omega) (by omega) (fun u3 g3 => k u3 ?_)
      simpa only [List.append_assoc] using g3
    by_cases ha : w / 2048 % 4 = 0
    · simp (disch := omega) only [f_R_tell_103, nm, q_lit, q_add, q_sub, q_subN, q_n1, q_mul, q_div, q_nm, q_and, q_or, q_xor, q_shr, q_shl, q_cl, q_a1, q_a3, q_a7, q_a31, q_a63, q_a255, q_a15, q_a16, q_a17, q_a2, q_a4, q_a8, q_a1024, q_a65536, Nat.reduceMod, Nat.reducePow, Nat.reduceDiv, Nat.reduceMul, Nat.reduceAdd, Nat.reduceSub, Nat.reduceEqDiff, q_ltT, q_ltF, q_leT, q_leF, q_eqT, q_eqF, q_inT, q_bz0, q_bz1, b_T, b_F, true_and, and_true, if_true, if_false, hd, ha, hq]
      exact key _ k
    · simp (disch := omega) only [f_R_tell_103, nm, q_lit, q_add, q_sub, q_subN, q_n1, q_mul, q_div, q_nm, q_and, q_or, q_xor, q_shr, q_shl, q_cl, q_a1, q_a3, q_a7, q_a31, q_a63, q_a255, q_a15, q_a16, q_a17, q_a2, q_a4, q_a8, q_a1024, q_a65536, Nat.reduceMod, Nat.reducePow, Nat.reduceDiv, Nat.reduceMul, Nat.reduceAdd, Nat.reduceSub, Nat.reduceEqDiff, q_ltT, q_ltF, q_leT, q_leF, q_eqT, q_eqF, q_inT, q_bz0, q_bz1, b_T, b_F, true_and, and_true, if_true, if_false, hd, hq]
      exact key _ k
def genW (w : Nat) : Prop := w % 64 ≠ 63 ∨ (w / 256 % 8 = 0 ∧ (w / 64 % 4 = 0 ∨ w / 64 % 4 = 3)) ∨ (w / 256 % 8 ≠ 0 ∧ w / 64 % 4 ≠ 0) ∨ ((w / 256 % 8 = 5 ∨ w / 256 % 8 = 6) ∧ w / 2048 % 4 ≠ 0) ∨ w / 256 % 8 = 2
theorem r_gen {u : SS} {w : Nat} {post : SS → Prop} (hw : w < 65536) (h7 : w / 256 % 8 ≠ 7) (hg : genW w) (h : f_R_sayDevice_103 post u (nI w) (nI (w / 256 % 8)) (nI (w / 64 % 4)) (nI (w / 2048 % 4))) : f_R_sayDevice post u (nI w) := by
  by_cases h63 : w % 64 = 63
  · rcases hg with g | ⟨g1, g | g⟩ | ⟨g1, g⟩ | ⟨g | g, g1⟩ | g
    · exact absurd h63 g
    · simp (disch := omega) only [f_R_sayDevice, f_R_sayMachine, nm, q_lit, q_add, q_sub, q_subN, q_n1, q_mul, q_div, q_nm, q_and, q_or, q_xor, q_shr, q_shl, q_cl, q_a1, q_a3, q_a7, q_a31, q_a63, q_a255, q_a15, q_a16, q_a17, q_a2, q_a4, q_a8, q_a1024, q_a65536, Nat.reduceMod, Nat.reducePow, Nat.reduceDiv, Nat.reduceMul, Nat.reduceAdd, Nat.reduceSub, Nat.reduceEqDiff, q_ltT, q_ltF, q_leT, q_leF, q_eqT, q_eqF, q_inT, q_bz0, q_bz1, b_T, b_F, true_and, and_true, if_true, if_false, h63, g1, g] at h ⊢; exact h
    · simp (disch := omega) only [f_R_sayDevice, f_R_sayMachine, nm, q_lit, q_add, q_sub, q_subN, q_n1, q_mul, q_div, q_nm, q_and, q_or, q_xor, q_shr, q_shl, q_cl, q_a1, q_a3, q_a7, q_a31, q_a63, q_a255, q_a15, q_a16, q_a17, q_a2, q_a4, q_a8, q_a1024, q_a65536, Nat.reduceMod, Nat.reducePow, Nat.reduceDiv, Nat.reduceMul, Nat.reduceAdd, Nat.reduceSub, Nat.reduceEqDiff, q_ltT, q_ltF, q_leT, q_leF, q_eqT, q_eqF, q_inT, q_bz0, q_bz1, b_T, b_F, true_and, and_true, if_true, if_false, h63, g1, g] at h ⊢; exact h
    · simp (disch := omega) only [f_R_sayDevice, f_R_sayMachine, nm, q_lit, q_add, q_sub, q_subN, q_n1, q_mul, q_div, q_nm, q_and, q_or, q_xor, q_shr, q_shl, q_cl, q_a1, q_a3, q_a7, q_a31, q_a63, q_a255, q_a15, q_a16, q_a17, q_a2, q_a4, q_a8, q_a1024, q_a65536, Nat.reduceMod, Nat.reducePow, Nat.reduceDiv, Nat.reduceMul, Nat.reduceAdd, Nat.reduceSub, Nat.reduceEqDiff, q_ltT, q_ltF, q_leT, q_leF, q_eqT, q_eqF, q_inT, q_bz0, q_bz1, b_T, b_F, true_and, and_true, if_true, if_false, h63] at h ⊢; exact h
    · by_cases c : w / 64 % 4 = 0
      · simp (disch := omega) only [f_R_sayDevice, f_R_sayMachine, f_R_sayMachine_77, nm, q_lit, q_add, q_sub, q_subN, q_n1, q_mul, q_div, q_nm, q_and, q_or, q_xor, q_shr, q_shl, q_cl, q_a1, q_a3, q_a7, q_a31, q_a63, q_a255, q_a15, q_a16, q_a17, q_a2, q_a4, q_a8, q_a1024, q_a65536, Nat.reduceMod, Nat.reducePow, Nat.reduceDiv, Nat.reduceMul, Nat.reduceAdd, Nat.reduceSub, Nat.reduceEqDiff, q_ltT, q_ltF, q_leT, q_leF, q_eqT, q_eqF, q_inT, q_bz0, q_bz1, b_T, b_F, true_and, and_true, if_true, if_false, h63, g, c] at h ⊢; exact h
      · simp (disch := omega) only [f_R_sayDevice, f_R_sayMachine, f_R_sayMachine_77, nm, q_lit, q_add, q_sub, q_subN, q_n1, q_mul, q_div, q_nm, q_and, q_or, q_xor, q_shr, q_shl, q_cl, q_a1, q_a3, q_a7, q_a31, q_a63, q_a255, q_a15, q_a16, q_a17, q_a2, q_a4, q_a8, q_a1024, q_a65536, Nat.reduceMod, Nat.reducePow, Nat.reduceDiv, Nat.reduceMul, Nat.reduceAdd, Nat.reduceSub, Nat.reduceEqDiff, q_ltT, q_ltF, q_leT, q_leF, q_eqT, q_eqF, q_inT, q_bz0, q_bz1, b_T, b_F, true_and, and_true, if_true, if_false, h63, g] at h ⊢; exact h
    · by_cases c : w / 64 % 4 = 0
      · simp (disch := omega) only [f_R_sayDevice, f_R_sayMachine, f_R_sayMachine_77, nm, q_lit, q_add, q_sub, q_subN, q_n1, q_mul, q_div, q_nm, q_and, q_or, q_xor, q_shr, q_shl, q_cl, q_a1, q_a3, q_a7, q_a31, q_a63, q_a255, q_a15, q_a16, q_a17, q_a2, q_a4, q_a8, q_a1024, q_a65536, Nat.reduceMod, Nat.reducePow, Nat.reduceDiv, Nat.reduceMul, Nat.reduceAdd, Nat.reduceSub, Nat.reduceEqDiff, q_ltT, q_ltF, q_leT, q_leF, q_eqT, q_eqF, q_inT, q_bz0, q_bz1, b_T, b_F, true_and, and_true, if_true, if_false, h63, g, c] at h ⊢; exact h
      · simp (disch := omega) only [f_R_sayDevice, f_R_sayMachine, f_R_sayMachine_77, nm, q_lit, q_add, q_sub, q_subN, q_n1, q_mul, q_div, q_nm, q_and, q_or, q_xor, q_shr, q_shl, q_cl, q_a1, q_a3, q_a7, q_a31, q_a63, q_a255, q_a15, q_a16, q_a17, q_a2, q_a4, q_a8, q_a1024, q_a65536, Nat.reduceMod, Nat.reducePow, Nat.reduceDiv, Nat.reduceMul, Nat.reduceAdd, Nat.reduceSub, Nat.reduceEqDiff, q_ltT, q_ltF, q_leT, q_leF, q_eqT, q_eqF, q_inT, q_bz0, q_bz1, b_T, b_F, true_and, and_true, if_true, if_false, h63, g] at h ⊢; exact h
    · by_cases c : w / 64 % 4 = 0
      · simp (disch := omega) only [f_R_sayDevice, f_R_sayMachine, f_R_sayMachine_77, nm, q_lit, q_add, q_sub, q_subN, q_n1, q_mul, q_div, q_nm, q_and, q_or, q_xor, q_shr, q_shl, q_cl, q_a1, q_a3, q_a7, q_a31, q_a63, q_a255, q_a15, q_a16, q_a17, q_a2, q_a4, q_a8, q_a1024, q_a65536, Nat.reduceMod, Nat.reducePow, Nat.reduceDiv, Nat.reduceMul, Nat.reduceAdd, Nat.reduceSub, Nat.reduceEqDiff, q_ltT, q_ltF, q_leT, q_leF, q_eqT, q_eqF, q_inT, q_bz0, q_bz1, b_T, b_F, true_and, and_true, if_true, if_false, h63, g, c] at h ⊢; exact h
      · simp (disch := omega) only [f_R_sayDevice, f_R_sayMachine, f_R_sayMachine_77, nm, q_lit, q_add, q_sub, q_subN, q_n1, q_mul, q_div, q_nm, q_and, q_or, q_xor, q_shr, q_shl, q_cl, q_a1, q_a3, q_a7, q_a31, q_a63, q_a255, q_a15, q_a16, q_a17, q_a2, q_a4, q_a8, q_a1024, q_a65536, Nat.reduceMod, Nat.reducePow, Nat.reduceDiv, Nat.reduceMul, Nat.reduceAdd, Nat.reduceSub, Nat.reduceEqDiff, q_ltT, q_ltF, q_leT, q_leF, q_eqT, q_eqF, q_inT, q_bz0, q_bz1, b_T, b_F, true_and, and_true, if_true, if_false, h63, g] at h ⊢; exact h
  · simp (disch := omega) only [f_R_sayDevice, nm, q_lit, q_add, q_sub, q_subN, q_n1, q_mul, q_div, q_nm, q_and, q_or, q_xor, q_shr, q_shl, q_cl, q_a1, q_a3, q_a7, q_a31, q_a63, q_a255, q_a15, q_a16, q_a17, q_a2, q_a4, q_a8, q_a1024, q_a65536, Nat.reduceMod, Nat.reducePow, Nat.reduceDiv, Nat.reduceMul, Nat.reduceAdd, Nat.reduceSub, Nat.reduceEqDiff, q_ltT, q_ltF, q_leT, q_leF, q_eqT, q_eqF, q_inT, q_bz0, q_bz1, b_T, b_F, true_and, and_true, if_true, if_false] at h ⊢; exact h
theorem r_205 {σ0 u : SS} {l : List Nat} {w W : Nat} {post : SS → Prop} (hu : RW σ0 l u) (hl : l.length + 14 ≤ 32) (hw : w < 65536) (hW : W < 8) (k : ∀ u', RW σ0 (l ++ ([32] ++ (if W = 0 then oct (w % 64) else oct (w / 2048 % 4) ++ ([44] ++ oct (w % 64))))) u' → post u') : f_R_sayDevice_205 post u (nI w) (nI W) (nI (w / 2048 % 4)) := by
  have ho := oct_len (w / 2048 % 4)
  simp (disch := omega) only [f_R_sayDevice_205, f_R_sayDevice_227, nm, q_lit, q_add, q_sub, q_subN, q_n1, q_mul, q_div, q_nm, q_and, q_or, q_xor, q_shr, q_shl, q_cl, q_a1, q_a3, q_a7, q_a31, q_a63, q_a255, q_a15, q_a16, q_a17, q_a2, q_a4, q_a8, q_a1024, q_a65536, Nat.reduceMod, Nat.reducePow, Nat.reduceDiv, Nat.reduceMul, Nat.reduceAdd, Nat.reduceSub, Nat.reduceEqDiff]
  refine rw_say hu (by omega) (fun u2 g2 => ?_)
  by_cases z : W = 0
  · rw [if_pos z] at k
    refine b_t (by rw [z]; decide) ?_
    refine rw_oct g2 (by simp only [List.length_append, List.length_cons, List.length_nil]; omega) (by omega) (fun u3 g3 => k u3 ?_)
    simpa only [List.append_assoc] using g3
  · rw [if_neg z] at k
    refine b_f (by rw [q_le (by omega) (by omega)]; omega) ?_
    refine rw_oct g2 (by simp only [List.length_append, List.length_cons, List.length_nil]; omega) (by omega) (fun u3 g3 => ?_)
    refine rw_say g3 (by simp only [List.length_append, List.length_cons, List.length_nil]; omega) (fun u4 g4 => ?_)
    refine rw_oct g4 (by simp only [List.length_append, List.length_cons, List.length_nil]; omega) (by omega) (fun u5 g5 => k u5 ?_)
    simpa only [List.append_assoc] using g5
theorem r_172 {σ0 u : SS} {l : List Nat} {w W c : Nat} {post : SS → Prop} (hu : RW σ0 l u) (hl : l.length + 16 ≤ 32) (hw : w < 65536) (hW : W < 8) (k : ∀ u', RW σ0 (l ++ ([c] ++ (ctL w ++ ([32] ++ (if W = 0 then oct (w % 64) else oct (w / 2048 % 4) ++ ([44] ++ oct (w % 64))))))) u' → post u') : f_R_sayDevice_172 post u (nI w) (nI W) (nI (w / 64 % 4)) (nI (w / 2048 % 4)) (nI c) := by
  have hq : w / 64 % 4 = 0 ∨ w / 64 % 4 = 1 ∨ w / 64 % 4 = 2 ∨ w / 64 % 4 = 3 := by omega
  have hc := ctL_len w
  rcases hq with z | z | z | z
  · have e : ctL w = [] := by unfold ctL; rw [if_pos z]
    rw [e, List.nil_append] at k
    simp (disch := omega) only [f_R_sayDevice_172, nm, q_lit, q_add, q_sub, q_subN, q_n1, q_mul, q_div, q_nm, q_and, q_or, q_xor, q_shr, q_shl, q_cl, q_a1, q_a3, q_a7, q_a31, q_a63, q_a255, q_a15, q_a16, q_a17, q_a2, q_a4, q_a8, q_a1024, q_a65536, Nat.reduceMod, Nat.reducePow, Nat.reduceDiv, Nat.reduceMul, Nat.reduceAdd, Nat.reduceSub, Nat.reduceEqDiff, q_ltT, q_ltF, q_leT, q_leF, q_eqT, q_eqF, q_inT, q_bz0, q_bz1, b_T, b_F, true_and, and_true, if_true, if_false, z]
    refine rw_say hu (by omega) (fun u2 g2 => ?_)
    refine r_205 g2 (by simp only [List.length_append, List.length_cons, List.length_nil]; omega) hw hW (fun u3 g3 => k u3 ?_)
    simpa only [List.append_assoc] using g3
  all_goals
    have e : ctL w = [kc 3 (w / 64 % 4 - 1)] := by unfold ctL; rw [if_neg (by omega)]
    rw [e, z] at k
    simp (disch := omega) only [f_R_sayDevice_172, f_R_sayDevice_202, nm, q_lit, q_add, q_sub, q_subN, q_n1, q_mul, q_div, q_nm, q_and, q_or, q_xor, q_shr, q_shl, q_cl, q_a1, q_a3, q_a7, q_a31, q_a63, q_a255, q_a15, q_a16, q_a17, q_a2, q_a4, q_a8, q_a1024, q_a65536, Nat.reduceMod, Nat.reducePow, Nat.reduceDiv, Nat.reduceMul, Nat.reduceAdd, Nat.reduceSub, Nat.reduceEqDiff, q_ltT, q_ltF, q_leT, q_leF, q_eqT, q_eqF, q_inT, q_bz0, q_bz1, b_T, b_F, true_and, and_true, if_true, if_false, z]
    refine rw_say hu (by omega) (fun u2 g2 => ?_)
    refine rw_say g2 (by simp only [List.length_append, List.length_cons, List.length_nil]; omega) (fun u3 g3 => ?_)
    refine r_205 g3 (by simp only [List.length_append, List.length_cons, List.length_nil]; omega) hw hW (fun u4 g4 => k u4 ?_)
    rw [List.append_assoc, List.append_assoc] at g4
    exact g4
theorem tl_23 {σ τ : SS} {w : Nat} (hd : w / 8192 = 3) (ha : w / 2048 % 4 = 0) (hq : w / 256 % 8 = 0) (hg : genW w) : TL σ τ w (tx 39 ++ (ctL w ++ ([32] ++ (oct (w % 64))))) := by
  refine ⟨Nat.le_trans (dl_len 23 w (by omega)) (by omega), fun post k => c_desc 23 (by omega) (by omega) (by omega) (fun i hi => ?_) (by show w / 256 * 256 = 24576; omega) k, fun post k => ?_⟩
  · unfold genW at hg
    match i, hi with
    | 0, _ => exact (by show 0 ≠ 1; omega : mskN 0 w ≠ bitN 0)
    | 1, _ => exact (by show 0 ≠ 1; omega : mskN 1 w ≠ bitN 1)
    | 2, _ => exact (by show w / 2048 * 2048 ≠ 0; omega : mskN 2 w ≠ bitN 2)
    | 3, _ => exact (by show w / 2048 * 2048 ≠ 2048; omega : mskN 3 w ≠ bitN 3)
    | 4, _ => exact (by show w / 2048 * 2048 ≠ 4096; omega : mskN 4 w ≠ bitN 4)
    | 5, _ => exact (by show w / 2048 * 2048 ≠ 6144; omega : mskN 5 w ≠ bitN 5)
    | 6, _ => exact (by show w / 8192 * 8192 ≠ 8192; omega : mskN 6 w ≠ bitN 6)
    | 7, _ => exact (by show w / 8192 * 8192 ≠ 16384; omega : mskN 7 w ≠ bitN 7)
    | 8, _ => exact (by show w / 32768 * 32768 + w / 256 % 8 * 256 ≠ 32768; omega : mskN 8 w ≠ bitN 8)
    | 9, _ => exact (by show w / 32768 * 32768 + w / 256 % 8 * 256 ≠ 33024; omega : mskN 9 w ≠ bitN 9)
    | 10, _ => exact (by show w / 32768 * 32768 + w / 256 % 8 * 256 ≠ 33280; omega : mskN 10 w ≠ bitN 10)
    | 11, _ => exact (by show w / 32768 * 32768 + w / 256 % 8 * 256 ≠ 33536; omega : mskN 11 w ≠ bitN 11)
    | 12, _ => exact (by show w / 32768 * 32768 + w / 256 % 8 * 256 ≠ 33792; omega : mskN 12 w ≠ bitN 12)
    | 13, _ => exact (by show w / 32768 * 32768 + w / 256 % 8 * 256 ≠ 34048; omega : mskN 13 w ≠ bitN 13)
    | 14, _ => exact (by show w / 32768 * 32768 + w / 256 % 8 * 256 ≠ 34304; omega : mskN 14 w ≠ bitN 14)
    | 15, _ => exact (by show w / 32768 * 32768 + w / 256 % 8 * 256 ≠ 34560; omega : mskN 15 w ≠ bitN 15)
    | 16, _ => exact (by show w ≠ 24703; omega : mskN 16 w ≠ bitN 16)
    | 17, _ => exact (by show w ≠ 24767; omega : mskN 17 w ≠ bitN 17)
    | 18, _ => exact (by show w ≠ 26175; omega : mskN 18 w ≠ bitN 18)
    | 19, _ => exact (by show w ≠ 25919; omega : mskN 19 w ≠ bitN 19)
    | 20, _ => exact (by show w / 8192 * 8192 + w % 2048 ≠ 24895; omega : mskN 20 w ≠ bitN 20)
    | 21, _ => exact (by show w / 8192 * 8192 + w % 2048 ≠ 25407; omega : mskN 21 w ≠ bitN 21)
    | 22, _ => exact (by show w / 8192 * 8192 + w % 2048 ≠ 25663; omega : mskN 22 w ≠ bitN 22)
    | n + 23, h => exact absurd h (by omega)
  · have hx : tx 39 = [78, 73, 79] := by decide
    rw [hx] at k
    have key : ∀ q : SS → Prop, (∀ v', RW τ ([78, 73, 79] ++ (ctL w ++ ([32] ++ (oct (w % 64))))) v' → q v') → f_R_sayDevice q (sI τ 28 0) (nI w) := by
      intro q k
      refine r_gen (by omega) (by omega) hg ?_
      rw [hq]
      simp (disch := omega) only [f_R_sayDevice_103, f_R_sayDevice_115, f_R_sayDevice_137, nm, q_lit, q_add, q_sub, q_subN, q_n1, q_mul, q_div, q_nm, q_and, q_or, q_xor, q_shr, q_shl, q_cl, q_a1, q_a3, q_a7, q_a31, q_a63, q_a255, q_a15, q_a16, q_a17, q_a2, q_a4, q_a8, q_a1024, q_a65536, Nat.reduceMod, Nat.reducePow, Nat.reduceDiv, Nat.reduceMul, Nat.reduceAdd, Nat.reduceSub, Nat.reduceEqDiff, q_ltT, q_ltF, q_leT, q_leF, q_eqT, q_eqF, q_inT, q_bz0, q_bz1, b_T, b_F, true_and, and_true, if_true, if_false]
      refine rw_say (rw_0 τ) (by simp) (fun u1 g1 => ?_)
      refine rw_say g1 (by simp) (fun u2 g2 => ?_)
      refine r_172 (W := 0) g2 (by simp) (by omega) (by omega) (fun u3 g3 => k u3 ?_)
      simpa only [List.append_assoc, List.nil_append, List.cons_append, if_true, if_false, Nat.reduceEqDiff] using g3
    simp (disch := omega) only [f_R_tell_103, nm, q_lit, q_add, q_sub, q_subN, q_n1, q_mul, q_div, q_nm, q_and, q_or, q_xor, q_shr, q_shl, q_cl, q_a1, q_a3, q_a7, q_a31, q_a63, q_a255, q_a15, q_a16, q_a17, q_a2, q_a4, q_a8, q_a1024, q_a65536, Nat.reduceMod, Nat.reducePow, Nat.reduceDiv, Nat.reduceMul, Nat.reduceAdd, Nat.reduceSub, Nat.reduceEqDiff, q_ltT, q_ltF, q_leT, q_leF, q_eqT, q_eqF, q_inT, q_bz0, q_bz1, b_T, b_F, true_and, and_true, if_true, if_false, hd, ha, hq]
    exact key _ k
theorem tl_24 {σ τ : SS} {w : Nat} (hd : w / 8192 = 3) (hq : w / 256 % 8 = 1) (hg : genW w) : TL σ τ w (tx 40 ++ (ctL w ++ ([32] ++ (oct (w / 2048 % 4) ++ ([44] ++ oct (w % 64)))))) := by
  refine ⟨Nat.le_trans (dl_len 24 w (by omega)) (by omega), fun post k => c_desc 24 (by omega) (by omega) (by omega) (fun i hi => ?_) (by show w / 8192 * 8192 + w / 256 % 8 * 256 = 24832; omega) k, fun post k => ?_⟩
  · unfold genW at hg
    match i, hi with
    | 0, _ => exact (by show 0 ≠ 1; omega : mskN 0 w ≠ bitN 0)
    | 1, _ => exact (by show 0 ≠ 1; omega : mskN 1 w ≠ bitN 1)
    | 2, _ => exact (by show w / 2048 * 2048 ≠ 0; omega : mskN 2 w ≠ bitN 2)
    | 3, _ => exact (by show w / 2048 * 2048 ≠ 2048; omega : mskN 3 w ≠ bitN 3)
    | 4, _ => exact (by show w / 2048 * 2048 ≠ 4096; omega : mskN 4 w ≠ bitN 4)
    | 5, _ => exact (by show w / 2048 * 2048 ≠ 6144; omega : mskN 5 w ≠ bitN 5)
    | 6, _ => exact (by show w / 8192 * 8192 ≠ 8192; omega : mskN 6 w ≠ bitN 6)
    | 7, _ => exact (by show w / 8192 * 8192 ≠ 16384; omega : mskN 7 w ≠ bitN 7)
    | 8, _ => exact (by show w / 32768 * 32768 + w / 256 % 8 * 256 ≠ 32768; omega : mskN 8 w ≠ bitN 8)
    | 9, _ => exact (by show w / 32768 * 32768 + w / 256 % 8 * 256 ≠ 33024; omega : mskN 9 w ≠ bitN 9)
    | 10, _ => exact (by show w / 32768 * 32768 + w / 256 % 8 * 256 ≠ 33280; omega : mskN 10 w ≠ bitN 10)
    | 11, _ => exact (by show w / 32768 * 32768 + w / 256 % 8 * 256 ≠ 33536; omega : mskN 11 w ≠ bitN 11)
    | 12, _ => exact (by show w / 32768 * 32768 + w / 256 % 8 * 256 ≠ 33792; omega : mskN 12 w ≠ bitN 12)
    | 13, _ => exact (by show w / 32768 * 32768 + w / 256 % 8 * 256 ≠ 34048; omega : mskN 13 w ≠ bitN 13)
    | 14, _ => exact (by show w / 32768 * 32768 + w / 256 % 8 * 256 ≠ 34304; omega : mskN 14 w ≠ bitN 14)
    | 15, _ => exact (by show w / 32768 * 32768 + w / 256 % 8 * 256 ≠ 34560; omega : mskN 15 w ≠ bitN 15)
    | 16, _ => exact (by show w ≠ 24703; omega : mskN 16 w ≠ bitN 16)
    | 17, _ => exact (by show w ≠ 24767; omega : mskN 17 w ≠ bitN 17)
    | 18, _ => exact (by show w ≠ 26175; omega : mskN 18 w ≠ bitN 18)
    | 19, _ => exact (by show w ≠ 25919; omega : mskN 19 w ≠ bitN 19)
    | 20, _ => exact (by show w / 8192 * 8192 + w % 2048 ≠ 24895; omega : mskN 20 w ≠ bitN 20)
    | 21, _ => exact (by show w / 8192 * 8192 + w % 2048 ≠ 25407; omega : mskN 21 w ≠ bitN 21)
    | 22, _ => exact (by show w / 8192 * 8192 + w % 2048 ≠ 25663; omega : mskN 22 w ≠ bitN 22)
    | 23, _ => exact (by show w / 256 * 256 ≠ 24576; omega : mskN 23 w ≠ bitN 23)
    | n + 24, h => exact absurd h (by omega)
  · have hx : tx 40 = [68, 73, 65] := by decide
    rw [hx] at k
    have key : ∀ q : SS → Prop, (∀ v', RW τ ([68, 73, 65] ++ (ctL w ++ ([32] ++ (oct (w / 2048 % 4) ++ ([44] ++ oct (w % 64)))))) v' → q v') → f_R_sayDevice q (sI τ 28 0) (nI w) := by
      intro q k
      refine r_gen (by omega) (by omega) hg ?_
      rw [hq]
      simp (disch := omega) only [f_R_sayDevice_103, f_R_sayDevice_115, f_R_sayDevice_137, nm, q_lit, q_add, q_sub, q_subN, q_n1, q_mul, q_div, q_nm, q_and, q_or, q_xor, q_shr, q_shl, q_cl, q_a1, q_a3, q_a7, q_a31, q_a63, q_a255, q_a15, q_a16, q_a17, q_a2, q_a4, q_a8, q_a1024, q_a65536, Nat.reduceMod, Nat.reducePow, Nat.reduceDiv, Nat.reduceMul, Nat.reduceAdd, Nat.reduceSub, Nat.reduceEqDiff, q_ltT, q_ltF, q_leT, q_leF, q_eqT, q_eqF, q_inT, q_bz0, q_bz1, b_T, b_F, true_and, and_true, if_true, if_false]
      refine rw_say (rw_0 τ) (by simp) (fun u1 g1 => ?_)
      refine rw_say g1 (by simp) (fun u2 g2 => ?_)
      refine r_172 (W := 1) g2 (by simp) (by omega) (by omega) (fun u3 g3 => k u3 ?_)
      simpa only [List.append_assoc, List.nil_append, List.cons_append, if_true, if_false, Nat.reduceEqDiff] using g3
    by_cases ha : w / 2048 % 4 = 0
    · simp (disch := omega) only [f_R_tell_103, nm, q_lit, q_add, q_sub, q_subN, q_n1, q_mul, q_div, q_nm, q_and, q_or, q_xor, q_shr, q_shl, q_cl, q_a1, q_a3, q_a7, q_a31, q_a63, q_a255, q_a15, q_a16, q_a17, q_a2, q_a4, q_a8, q_a1024, q_a65536, Nat.reduceMod, Nat.reducePow, Nat.reduceDiv, Nat.reduceMul, Nat.reduceAdd, Nat.reduceSub, Nat.reduceEqDiff, q_ltT, q_ltF, q_leT, q_leF, q_eqT, q_eqF, q_inT, q_bz0, q_bz1, b_T, b_F, true_and, and_true, if_true, if_false, hd, ha, hq]
      exact key _ k
    · simp (disch := omega) only [f_R_tell_103, nm, q_lit, q_add, q_sub, q_subN, q_n1, q_mul, q_div, q_nm, q_and, q_or, q_xor, q_shr, q_shl, q_cl, q_a1, q_a3, q_a7, q_a31, q_a63, q_a255, q_a15, q_a16, q_a17, q_a2, q_a4, q_a8, q_a1024, q_a65536, Nat.reduceMod, Nat.reducePow, Nat.reduceDiv, Nat.reduceMul, Nat.reduceAdd, Nat.reduceSub, Nat.reduceEqDiff, q_ltT, q_ltF, q_leT, q_leF, q_eqT, q_eqF, q_inT, q_bz0, q_bz1, b_T, b_F, true_and, and_true, if_true, if_false, hd, hq]
      exact key _ k
theorem tl_25 {σ τ : SS} {w : Nat} (hd : w / 8192 = 3) (hq : w / 256 % 8 = 2) (hg : genW w) : TL σ τ w (tx 41 ++ (ctL w ++ ([32] ++ (oct (w / 2048 % 4) ++ ([44] ++ oct (w % 64)))))) := by
  refine ⟨Nat.le_trans (dl_len 25 w (by omega)) (by omega), fun post k => c_desc 25 (by omega) (by omega) (by omega) (fun i hi => ?_) (by show w / 8192 * 8192 + w / 256 % 8 * 256 = 25088; omega) k, fun post k => ?_⟩
  · unfold genW at hg
    match i, hi with
    | 0, _ => exact (by show 0 ≠ 1; omega : mskN 0 w ≠ bitN 0)
    | 1, _ => exact (by show 0 ≠ 1; omega : mskN 1 w ≠ bitN 1)
    | 2, _ => exact (by show w / 2048 * 2048 ≠ 0; omega : mskN 2 w ≠ bitN 2)
    | 3, _ => exact (by show w / 2048 * 2048 ≠ 2048; omega : mskN 3 w ≠ bitN 3)
    | 4, _ => exact (by show w / 2048 * 2048 ≠ 4096; omega : mskN 4 w ≠ bitN 4)
    | 5, _ => exact (by show w / 2048 * 2048 ≠ 6144; omega : mskN 5 w ≠ bitN 5)
    | 6, _ => exact (by show w / 8192 * 8192 ≠ 8192; omega : mskN 6 w ≠ bitN 6)
    | 7, _ => exact (by show w / 8192 * 8192 ≠ 16384; omega : mskN 7 w ≠ bitN 7)
    | 8, _ => exact (by show w / 32768 * 32768 + w / 256 % 8 * 256 ≠ 32768; omega : mskN 8 w ≠ bitN 8)
    | 9, _ => exact (by show w / 32768 * 32768 + w / 256 % 8 * 256 ≠ 33024; omega : mskN 9 w ≠ bitN 9)
    | 10, _ => exact (by show w / 32768 * 32768 + w / 256 % 8 * 256 ≠ 33280; omega : mskN 10 w ≠ bitN 10)
    | 11, _ => exact (by show w / 32768 * 32768 + w / 256 % 8 * 256 ≠ 33536; omega : mskN 11 w ≠ bitN 11)
    | 12, _ => exact (by show w / 32768 * 32768 + w / 256 % 8 * 256 ≠ 33792; omega : mskN 12 w ≠ bitN 12)
    | 13, _ => exact (by show w / 32768 * 32768 + w / 256 % 8 * 256 ≠ 34048; omega : mskN 13 w ≠ bitN 13)
    | 14, _ => exact (by show w / 32768 * 32768 + w / 256 % 8 * 256 ≠ 34304; omega : mskN 14 w ≠ bitN 14)
    | 15, _ => exact (by show w / 32768 * 32768 + w / 256 % 8 * 256 ≠ 34560; omega : mskN 15 w ≠ bitN 15)
    | 16, _ => exact (by show w ≠ 24703; omega : mskN 16 w ≠ bitN 16)
    | 17, _ => exact (by show w ≠ 24767; omega : mskN 17 w ≠ bitN 17)
    | 18, _ => exact (by show w ≠ 26175; omega : mskN 18 w ≠ bitN 18)
    | 19, _ => exact (by show w ≠ 25919; omega : mskN 19 w ≠ bitN 19)
    | 20, _ => exact (by show w / 8192 * 8192 + w % 2048 ≠ 24895; omega : mskN 20 w ≠ bitN 20)
    | 21, _ => exact (by show w / 8192 * 8192 + w % 2048 ≠ 25407; omega : mskN 21 w ≠ bitN 21)
    | 22, _ => exact (by show w / 8192 * 8192 + w % 2048 ≠ 25663; omega : mskN 22 w ≠ bitN 22)
    | 23, _ => exact (by show w / 256 * 256 ≠ 24576; omega : mskN 23 w ≠ bitN 23)
    | 24, _ => exact (by show w / 8192 * 8192 + w / 256 % 8 * 256 ≠ 24832; omega : mskN 24 w ≠ bitN 24)
    | n + 25, h => exact absurd h (by omega)
  · have hx : tx 41 = [68, 79, 65] := by decide
    rw [hx] at k
    have key : ∀ q : SS → Prop, (∀ v', RW τ ([68, 79, 65] ++ (ctL w ++ ([32] ++ (oct (w / 2048 % 4) ++ ([44] ++ oct (w % 64)))))) v' → q v') → f_R_sayDevice q (sI τ 28 0) (nI w) := by
      intro q k
      refine r_gen (by omega) (by omega) hg ?_
      rw [hq]
      simp (disch := omega) only [f_R_sayDevice_103, f_R_sayDevice_115, f_R_sayDevice_137, nm, q_lit, q_add, q_sub, q_subN, q_n1, q_mul, q_div, q_nm, q_and, q_or, q_xor, q_shr, q_shl, q_cl, q_a1, q_a3, q_a7, q_a31, q_a63, q_a255, q_a15, q_a16, q_a17, q_a2, q_a4, q_a8, q_a1024, q_a65536, Nat.reduceMod, Nat.reducePow, Nat.reduceDiv, Nat.reduceMul, Nat.reduceAdd, Nat.reduceSub, Nat.reduceEqDiff, q_ltT, q_ltF, q_leT, q_leF, q_eqT, q_eqF, q_inT, q_bz0, q_bz1, b_T, b_F, true_and, and_true, if_true, if_false]
      refine rw_say (rw_0 τ) (by simp) (fun u1 g1 => ?_)
      refine rw_say g1 (by simp) (fun u2 g2 => ?_)
      refine r_172 (W := 2) g2 (by simp) (by omega) (by omega) (fun u3 g3 => k u3 ?_)
      simpa only [List.append_assoc, List.nil_append, List.cons_append, if_true, if_false, Nat.reduceEqDiff] using g3
    by_cases ha : w / 2048 % 4 = 0
    · simp (disch := omega) only [f_R_tell_103, nm, q_lit, q_add, q_sub, q_subN, q_n1, q_mul, q_div, q_nm, q_and, q_or, q_xor, q_shr, q_shl, q_cl, q_a1, q_a3, q_a7, q_a31, q_a63, q_a255, q_a15, q_a16, q_a17, q_a2, q_a4, q_a8, q_a1024, q_a65536, Nat.reduceMod, Nat.reducePow, Nat.reduceDiv, Nat.reduceMul, Nat.reduceAdd, Nat.reduceSub, Nat.reduceEqDiff, q_ltT, q_ltF, q_leT, q_leF, q_eqT, q_eqF, q_inT, q_bz0, q_bz1, b_T, b_F, true_and, and_true, if_true, if_false, hd, ha, hq]
      exact key _ k
    · simp (disch := omega) only [f_R_tell_103, nm, q_lit, q_add, q_sub, q_subN, q_n1, q_mul, q_div, q_nm, q_and, q_or, q_xor, q_shr, q_shl, q_cl, q_a1, q_a3, q_a7, q_a31, q_a63, q_a255, q_a15, q_a16, q_a17, q_a2, q_a4, q_a8, q_a1024, q_a65536, Nat.reduceMod, Nat.reducePow, Nat.reduceDiv, Nat.reduceMul, Nat.reduceAdd, Nat.reduceSub, Nat.reduceEqDiff, q_ltT, q_ltF, q_leT, q_leF, q_eqT, q_eqF, q_inT, q_bz0, q_bz1, b_T, b_F, true_and, and_true, if_true, if_false, hd, hq]
      exact key _ k
theorem tl_26 {σ τ : SS} {w : Nat} (hd : w / 8192 = 3) (hq : w / 256 % 8 = 3) (hg : genW w) : TL σ τ w (tx 42 ++ (ctL w ++ ([32] ++ (oct (w / 2048 % 4) ++ ([44] ++ oct (w % 64)))))) := by
  refine ⟨Nat.le_trans (dl_len 26 w (by omega)) (by omega), fun post k => c_desc 26 (by omega) (by omega) (by omega) (fun i hi => ?_) (by show w / 8192 * 8192 + w / 256 % 8 * 256 = 25344; omega) k, fun post k => ?_⟩
  · unfold genW at hg
    match i, hi with
    | 0, _ => exact (by show 0 ≠ 1; omega : mskN 0 w ≠ bitN 0)
    | 1, _ => exact (by show 0 ≠ 1; omega : mskN 1 w ≠ bitN 1)
    | 2, _ => exact (by show w / 2048 * 2048 ≠ 0; omega : mskN 2 w ≠ bitN 2)
    | 3, _ => exact (by show w / 2048 * 2048 ≠ 2048; omega : mskN 3 w ≠ bitN 3)
    | 4, _ => exact (by show w / 2048 * 2048 ≠ 4096; omega : mskN 4 w ≠ bitN 4)
    | 5, _ => exact (by show w / 2048 * 2048 ≠ 6144; omega : mskN 5 w ≠ bitN 5)
    | 6, _ => exact (by show w / 8192 * 8192 ≠ 8192; omega : mskN 6 w ≠ bitN 6)
    | 7, _ => exact (by show w / 8192 * 8192 ≠ 16384; omega : mskN 7 w ≠ bitN 7)
    | 8, _ => exact (by show w / 32768 * 32768 + w / 256 % 8 * 256 ≠ 32768; omega : mskN 8 w ≠ bitN 8)
    | 9, _ => exact (by show w / 32768 * 32768 + w / 256 % 8 * 256 ≠ 33024; omega : mskN 9 w ≠ bitN 9)
    | 10, _ => exact (by show w / 32768 * 32768 + w / 256 % 8 * 256 ≠ 33280; omega : mskN 10 w ≠ bitN 10)
    | 11, _ => exact (by show w / 32768 * 32768 + w / 256 % 8 * 256 ≠ 33536; omega : mskN 11 w ≠ bitN 11)
    | 12, _ => exact (by show w / 32768 * 32768 + w / 256 % 8 * 256 ≠ 33792; omega : mskN 12 w ≠ bitN 12)
    | 13, _ => exact (by show w / 32768 * 32768 + w / 256 % 8 * 256 ≠ 34048; omega : mskN 13 w ≠ bitN 13)
    | 14, _ => exact (by show w / 32768 * 32768 + w / 256 % 8 * 256 ≠ 34304; omega : mskN 14 w ≠ bitN 14)
    | 15, _ => exact (by show w / 32768 * 32768 + w / 256 % 8 * 256 ≠ 34560; omega : mskN 15 w ≠ bitN 15)
    | 16, _ => exact (by show w ≠ 24703; omega : mskN 16 w ≠ bitN 16)
    | 17, _ => exact (by show w ≠ 24767; omega : mskN 17 w ≠ bitN 17)
    | 18, _ => exact (by show w ≠ 26175; omega : mskN 18 w ≠ bitN 18)
    | 19, _ => exact (by show w ≠ 25919; omega : mskN 19 w ≠ bitN 19)
    | 20, _ => exact (by show w / 8192 * 8192 + w % 2048 ≠ 24895; omega : mskN 20 w ≠ bitN 20)
    | 21, _ => exact (by show w / 8192 * 8192 + w % 2048 ≠ 25407; omega : mskN 21 w ≠ bitN 21)
    | 22, _ => exact (by show w / 8192 * 8192 + w % 2048 ≠ 25663; omega : mskN 22 w ≠ bitN 22)
    | 23, _ => exact (by show w / 256 * 256 ≠ 24576; omega : mskN 23 w ≠ bitN 23)
    | 24, _ => exact (by show w / 8192 * 8192 + w / 256 % 8 * 256 ≠ 24832; omega : mskN 24 w ≠ bitN 24)
    | 25, _ => exact (by show w / 8192 * 8192 + w / 256 % 8 * 256 ≠ 25088; omega : mskN 25 w ≠ bitN 25)
    | n + 26, h => exact absurd h (by omega)
  · have hx : tx 42 = [68, 73, 66] := by decide
    rw [hx] at k
    have key : ∀ q : SS → Prop, (∀ v', RW τ ([68, 73, 66] ++ (ctL w ++ ([32] ++ (oct (w / 2048 % 4) ++ ([44] ++ oct (w % 64)))))) v' → q v') → f_R_sayDevice q (sI τ 28 0) (nI w) := by
      intro q k
      refine r_gen (by omega) (by omega) hg ?_
      rw [hq]
      simp (disch := omega) only [f_R_sayDevice_103, f_R_sayDevice_115, f_R_sayDevice_137, nm, q_lit, q_add, q_sub, q_subN, q_n1, q_mul, q_div, q_nm, q_and, q_or, q_xor, q_shr, q_shl, q_cl, q_a1, q_a3, q_a7, q_a31, q_a63, q_a255, q_a15, q_a16, q_a17, q_a2, q_a4, q_a8, q_a1024, q_a65536, Nat.reduceMod, Nat.reducePow, Nat.reduceDiv, Nat.reduceMul, Nat.reduceAdd, Nat.reduceSub, Nat.reduceEqDiff, q_ltT, q_ltF, q_leT, q_leF, q_eqT, q_eqF, q_inT, q_bz0, q_bz1, b_T, b_F, true_and, and_true, if_true, if_false]
      refine rw_say (rw_0 τ) (by simp) (fun u1 g1 => ?_)
      refine rw_say g1 (by simp) (fun u2 g2 => ?_)
      refine r_172 (W := 3) g2 (by simp) (by omega) (by omega) (fun u3 g3 => k u3 ?_)
      simpa only [List.append_assoc, List.nil_append, List.cons_append, if_true, if_false, Nat.reduceEqDiff] using g3
    by_cases ha : w / 2048 % 4 = 0
    · simp (disch := omega) only [f_R_tell_103, nm, q_lit, q_add, q_sub, q_subN, q_n1, q_mul, q_div, q_nm, q_and, q_or, q_xor, q_shr, q_shl, q_cl, q_a1, q_a3, q_a7, q_a31, q_a63, q_a255, q_a15, q_a16, q_a17, q_a2, q_a4, q_a8, q_a1024, q_a65536, Nat.reduceMod, Nat.reducePow, Nat.reduceDiv, Nat.reduceMul, Nat.reduceAdd, Nat.reduceSub, Nat.reduceEqDiff, q_ltT, q_ltF, q_leT, q_leF, q_eqT, q_eqF, q_inT, q_bz0, q_bz1, b_T, b_F, true_and, and_true, if_true, if_false, hd, ha, hq]
      exact key _ k
    · simp (disch := omega) only [f_R_tell_103, nm, q_lit, q_add, q_sub, q_subN, q_n1, q_mul, q_div, q_nm, q_and, q_or, q_xor, q_shr, q_shl, q_cl, q_a1, q_a3, q_a7, q_a31, q_a63, q_a255, q_a15, q_a16, q_a17, q_a2, q_a4, q_a8, q_a1024, q_a65536, Nat.reduceMod, Nat.reducePow, Nat.reduceDiv, Nat.reduceMul, Nat.reduceAdd, Nat.reduceSub, Nat.reduceEqDiff, q_ltT, q_ltF, q_leT, q_leF, q_eqT, q_eqF, q_inT, q_bz0, q_bz1, b_T, b_F, true_and, and_true, if_true, if_false, hd, hq]
      exact key _ k
theorem tl_27 {σ τ : SS} {w : Nat} (hd : w / 8192 = 3) (hq : w / 256 % 8 = 4) (hg : genW w) : TL σ τ w (tx 43 ++ (ctL w ++ ([32] ++ (oct (w / 2048 % 4) ++ ([44] ++ oct (w % 64)))))) := by
  refine ⟨Nat.le_trans (dl_len 27 w (by omega)) (by omega), fun post k => c_desc 27 (by omega) (by omega) (by omega) (fun i hi => ?_) (by show w / 8192 * 8192 + w / 256 % 8 * 256 = 25600; omega) k, fun post k => ?_⟩
  · unfold genW at hg
    match i, hi with
    | 0, _ => exact (by show 0 ≠ 1; omega : mskN 0 w ≠ bitN 0)
    | 1, _ => exact (by show 0 ≠ 1; omega : mskN 1 w ≠ bitN 1)
    | 2, _ => exact (by show w / 2048 * 2048 ≠ 0; omega : mskN 2 w ≠ bitN 2)
    | 3, _ => exact (by show w / 2048 * 2048 ≠ 2048; omega : mskN 3 w ≠ bitN 3)
    | 4, _ => exact (by show w / 2048 * 2048 ≠ 4096; omega : mskN 4 w ≠ bitN 4)
    | 5, _ => exact (by show w / 2048 * 2048 ≠ 6144; omega : mskN 5 w ≠ bitN 5)
    | 6, _ => exact (by show w / 8192 * 8192 ≠ 8192; omega : mskN 6 w ≠ bitN 6)
    | 7, _ => exact (by show w / 8192 * 8192 ≠ 16384; omega : mskN 7 w ≠ bitN 7)
    | 8, _ => exact (by show w / 32768 * 32768 + w / 256 % 8 * 256 ≠ 32768; omega : mskN 8 w ≠ bitN 8)
    | 9, _ => exact (by show w / 32768 * 32768 + w / 256 % 8 * 256 ≠ 33024; omega : mskN 9 w ≠ bitN 9)
    | 10, _ => exact (by show w / 32768 * 32768 + w / 256 % 8 * 256 ≠ 33280; omega : mskN 10 w ≠ bitN 10)
    | 11, _ => exact (by show w / 32768 * 32768 + w / 256 % 8 * 256 ≠ 33536; omega : mskN 11 w ≠ bitN 11)
    | 12, _ => exact (by show w / 32768 * 32768 + w / 256 % 8 * 256 ≠ 33792; omega : mskN 12 w ≠ bitN 12)
    | 13, _ => exact (by show w / 32768 * 32768 + w / 256 % 8 * 256 ≠ 34048; omega : mskN 13 w ≠ bitN 13)
    | 14, _ => exact (by show w / 32768 * 32768 + w / 256 % 8 * 256 ≠ 34304; omega : mskN 14 w ≠ bitN 14)
    | 15, _ => exact (by show w / 32768 * 32768 + w / 256 % 8 * 256 ≠ 34560; omega : mskN 15 w ≠ bitN 15)
    | 16, _ => exact (by show w ≠ 24703; omega : mskN 16 w ≠ bitN 16)
    | 17, _ => exact (by show w ≠ 24767; omega : mskN 17 w ≠ bitN 17)
    | 18, _ => exact (by show w ≠ 26175; omega : mskN 18 w ≠ bitN 18)
    | 19, _ => exact (by show w ≠ 25919; omega : mskN 19 w ≠ bitN 19)
    | 20, _ => exact (by show w / 8192 * 8192 + w % 2048 ≠ 24895; omega : mskN 20 w ≠ bitN 20)
    | 21, _ => exact (by show w / 8192 * 8192 + w % 2048 ≠ 25407; omega : mskN 21 w ≠ bitN 21)
    | 22, _ => exact (by show w / 8192 * 8192 + w % 2048 ≠ 25663; omega : mskN 22 w ≠ bitN 22)
    | 23, _ => exact (by show w / 256 * 256 ≠ 24576; omega : mskN 23 w ≠ bitN 23)
    | 24, _ => exact (by show w / 8192 * 8192 + w / 256 % 8 * 256 ≠ 24832; omega : mskN 24 w ≠ bitN 24)
    | 25, _ => exact (by show w / 8192 * 8192 + w / 256 % 8 * 256 ≠ 25088; omega : mskN 25 w ≠ bitN 25)
    | 26, _ => exact (by show w / 8192 * 8192 + w / 256 % 8 * 256 ≠ 25344; omega : mskN 26 w ≠ bitN 26)
    | n + 27, h => exact absurd h (by omega)
  · have hx : tx 43 = [68, 79, 66] := by decide
    rw [hx] at k
    have key : ∀ q : SS → Prop, (∀ v', RW τ ([68, 79, 66] ++ (ctL w ++ ([32] ++ (oct (w / 2048 % 4) ++ ([44] ++ oct (w % 64)))))) v' → q v') → f_R_sayDevice q (sI τ 28 0) (nI w) := by
      intro q k
      refine r_gen (by omega) (by omega) hg ?_
      rw [hq]
      simp (disch := omega) only [f_R_sayDevice_103, f_R_sayDevice_115, f_R_sayDevice_137, nm, q_lit, q_add, q_sub, q_subN, q_n1, q_mul, q_div, q_nm, q_and, q_or, q_xor, q_shr, q_shl, q_cl, q_a1, q_a3, q_a7, q_a31, q_a63, q_a255, q_a15, q_a16, q_a17, q_a2, q_a4, q_a8, q_a1024, q_a65536, Nat.reduceMod, Nat.reducePow, Nat.reduceDiv, Nat.reduceMul, Nat.reduceAdd, Nat.reduceSub, Nat.reduceEqDiff, q_ltT, q_ltF, q_leT, q_leF, q_eqT, q_eqF, q_inT, q_bz0, q_bz1, b_T, b_F, true_and, and_true, if_true, if_false]
      refine rw_say (rw_0 τ) (by simp) (fun u1 g1 => ?_)
      refine rw_say g1 (by simp) (fun u2 g2 => ?_)
      refine r_172 (W := 4) g2 (by simp) (by omega) (by omega) (fun u3 g3 => k u3 ?_)
      simpa only [List.append_assoc, List.nil_append, List.cons_append, if_true, if_false, Nat.reduceEqDiff] using g3
    by_cases ha : w / 2048 % 4 = 0
    · simp (disch := omega) only [f_R_tell_103, nm, q_lit, q_add, q_sub, q_subN, q_n1, q_mul, q_div, q_nm, q_and, q_or, q_xor, q_shr, q_shl, q_cl, q_a1, q_a3, q_a7, q_a31, q_a63, q_a255, q_a15, q_a16, q_a17, q_a2, q_a4, q_a8, q_a1024, q_a65536, Nat.reduceMod, Nat.reducePow, Nat.reduceDiv, Nat.reduceMul, Nat.reduceAdd, Nat.reduceSub, Nat.reduceEqDiff, q_ltT, q_ltF, q_leT, q_leF, q_eqT, q_eqF, q_inT, q_bz0, q_bz1, b_T, b_F, true_and, and_true, if_true, if_false, hd, ha, hq]
      exact key _ k
    · simp (disch := omega) only [f_R_tell_103, nm, q_lit, q_add, q_sub, q_subN, q_n1, q_mul, q_div, q_nm, q_and, q_or, q_xor, q_shr, q_shl, q_cl, q_a1, q_a3, q_a7, q_a31, q_a63, q_a255, q_a15, q_a16, q_a17, q_a2, q_a4, q_a8, q_a1024, q_a65536, Nat.reduceMod, Nat.reducePow, Nat.reduceDiv, Nat.reduceMul, Nat.reduceAdd, Nat.reduceSub, Nat.reduceEqDiff, q_ltT, q_ltF, q_leT, q_leF, q_eqT, q_eqF, q_inT, q_bz0, q_bz1, b_T, b_F, true_and, and_true, if_true, if_false, hd, hq]
      exact key _ k
theorem tl_28 {σ τ : SS} {w : Nat} (hd : w / 8192 = 3) (hq : w / 256 % 8 = 5) (hg : genW w) : TL σ τ w (tx 44 ++ (ctL w ++ ([32] ++ (oct (w / 2048 % 4) ++ ([44] ++ oct (w % 64)))))) := by
  refine ⟨Nat.le_trans (dl_len 28 w (by omega)) (by omega), fun post k => c_desc 28 (by omega) (by omega) (by omega) (fun i hi => ?_) (by show w / 8192 * 8192 + w / 256 % 8 * 256 = 25856; omega) k, fun post k => ?_⟩
  · unfold genW at hg
    match i, hi with
    | 0, _ => exact (by show 0 ≠ 1; omega : mskN 0 w ≠ bitN 0)
    | 1, _ => exact (by show 0 ≠ 1; omega : mskN 1 w ≠ bitN 1)
    | 2, _ => exact (by show w / 2048 * 2048 ≠ 0; omega : mskN 2 w ≠ bitN 2)
    | 3, _ => exact (by show w / 2048 * 2048 ≠ 2048; omega : mskN 3 w ≠ bitN 3)
    | 4, _ => exact (by show w / 2048 * 2048 ≠ 4096; omega : mskN 4 w ≠ bitN 4)
    | 5, _ => exact (by show w / 2048 * 2048 ≠ 6144; omega : mskN 5 w ≠ bitN 5)
    | 6, _ => exact (by show w / 8192 * 8192 ≠ 8192; omega : mskN 6 w ≠ bitN 6)
    | 7, _ => exact (by show w / 8192 * 8192 ≠ 16384; omega : mskN 7 w ≠ bitN 7)
    | 8, _ => exact (by show w / 32768 * 32768 + w / 256 % 8 * 256 ≠ 32768; omega : mskN 8 w ≠ bitN 8)
    | 9, _ => exact (by show w / 32768 * 32768 + w / 256 % 8 * 256 ≠ 33024; omega : mskN 9 w ≠ bitN 9)
    | 10, _ => exact (by show w / 32768 * 32768 + w / 256 % 8 * 256 ≠ 33280; omega : mskN 10 w ≠ bitN 10)
    | 11, _ => exact (by show w / 32768 * 32768 + w / 256 % 8 * 256 ≠ 33536; omega : mskN 11 w ≠ bitN 11)
    | 12, _ => exact (by show w / 32768 * 32768 + w / 256 % 8 * 256 ≠ 33792; omega : mskN 12 w ≠ bitN 12)
    | 13, _ => exact (by show w / 32768 * 32768 + w / 256 % 8 * 256 ≠ 34048; omega : mskN 13 w ≠ bitN 13)
    | 14, _ => exact (by show w / 32768 * 32768 + w / 256 % 8 * 256 ≠ 34304; omega : mskN 14 w ≠ bitN 14)
    | 15, _ => exact (by show w / 32768 * 32768 + w / 256 % 8 * 256 ≠ 34560; omega : mskN 15 w ≠ bitN 15)
    | 16, _ => exact (by show w ≠ 24703; omega : mskN 16 w ≠ bitN 16)
    | 17, _ => exact (by show w ≠ 24767; omega : mskN 17 w ≠ bitN 17)
    | 18, _ => exact (by show w ≠ 26175; omega : mskN 18 w ≠ bitN 18)
    | 19, _ => exact (by show w ≠ 25919; omega : mskN 19 w ≠ bitN 19)
    | 20, _ => exact (by show w / 8192 * 8192 + w % 2048 ≠ 24895; omega : mskN 20 w ≠ bitN 20)
    | 21, _ => exact (by show w / 8192 * 8192 + w % 2048 ≠ 25407; omega : mskN 21 w ≠ bitN 21)
    | 22, _ => exact (by show w / 8192 * 8192 + w % 2048 ≠ 25663; omega : mskN 22 w ≠ bitN 22)
    | 23, _ => exact (by show w / 256 * 256 ≠ 24576; omega : mskN 23 w ≠ bitN 23)
    | 24, _ => exact (by show w / 8192 * 8192 + w / 256 % 8 * 256 ≠ 24832; omega : mskN 24 w ≠ bitN 24)
    | 25, _ => exact (by show w / 8192 * 8192 + w / 256 % 8 * 256 ≠ 25088; omega : mskN 25 w ≠ bitN 25)
    | 26, _ => exact (by show w / 8192 * 8192 + w / 256 % 8 * 256 ≠ 25344; omega : mskN 26 w ≠ bitN 26)
    | 27, _ => exact (by show w / 8192 * 8192 + w / 256 % 8 * 256 ≠ 25600; omega : mskN 27 w ≠ bitN 27)
    | n + 28, h => exact absurd h (by omega)
  · have hx : tx 44 = [68, 73, 67] := by decide
    rw [hx] at k
    have key : ∀ q : SS → Prop, (∀ v', RW τ ([68, 73, 67] ++ (ctL w ++ ([32] ++ (oct (w / 2048 % 4) ++ ([44] ++ oct (w % 64)))))) v' → q v') → f_R_sayDevice q (sI τ 28 0) (nI w) := by
      intro q k
      refine r_gen (by omega) (by omega) hg ?_
      rw [hq]
      simp (disch := omega) only [f_R_sayDevice_103, f_R_sayDevice_115, f_R_sayDevice_137, nm, q_lit, q_add, q_sub, q_subN, q_n1, q_mul, q_div, q_nm, q_and, q_or, q_xor, q_shr, q_shl, q_cl, q_a1, q_a3, q_a7, q_a31, q_a63, q_a255, q_a15, q_a16, q_a17, q_a2, q_a4, q_a8, q_a1024, q_a65536, Nat.reduceMod, Nat.reducePow, Nat.reduceDiv, Nat.reduceMul, Nat.reduceAdd, Nat.reduceSub, Nat.reduceEqDiff, q_ltT, q_ltF, q_leT, q_leF, q_eqT, q_eqF, q_inT, q_bz0, q_bz1, b_T, b_F, true_and, and_true, if_true, if_false]
      refine rw_say (rw_0 τ) (by simp) (fun u1 g1 => ?_)
      refine rw_say g1 (by simp) (fun u2 g2 => ?_)
      refine r_172 (W := 5) g2 (by simp) (by omega) (by omega) (fun u3 g3 => k u3 ?_)
      simpa only [List.append_assoc, List.nil_append, List.cons_append, if_true, if_false, Nat.reduceEqDiff] using g3
    by_cases ha : w / 2048 % 4 = 0
    · simp (disch := omega) only [f_R_tell_103, nm, q_lit, q_add, q_sub, q_subN, q_n1, q_mul, q_div, q_nm, q_and, q_or, q_xor, q_shr, q_shl, q_cl, q_a1, q_a3, q_a7, q_a31, q_a63, q_a255, q_a15, q_a16, q_a17, q_a2, q_a4, q_a8, q_a1024, q_a65536, Nat.reduceMod, Nat.reducePow, Nat.reduceDiv, Nat.reduceMul, Nat.reduceAdd, Nat.reduceSub, Nat.reduceEqDiff, q_ltT, q_ltF, q_leT, q_leF, q_eqT, q_eqF, q_inT, q_bz0, q_bz1, b_T, b_F, true_and, and_true, if_true, if_false, hd, ha, hq]
      exact key _ k
    · simp (disch := omega) only [f_R_tell_103, nm, q_lit, q_add, q_sub, q_subN, q_n1, q_mul, q_div, q_nm, q_and, q_or, q_xor, q_shr, q_shl, q_cl, q_a1, q_a3, q_a7, q_a31, q_a63, q_a255, q_a15, q_a16, q_a17, q_a2, q_a4, q_a8, q_a1024, q_a65536, Nat.reduceMod, Nat.reducePow, Nat.reduceDiv, Nat.reduceMul, Nat.reduceAdd, Nat.reduceSub, Nat.reduceEqDiff, q_ltT, q_ltF, q_leT, q_leF, q_eqT, q_eqF, q_inT, q_bz0, q_bz1, b_T, b_F, true_and, and_true, if_true, if_false, hd, hq]
      exact key _ k
theorem tl_29 {σ τ : SS} {w : Nat} (hd : w / 8192 = 3) (hq : w / 256 % 8 = 6) (hg : genW w) : TL σ τ w (tx 45 ++ (ctL w ++ ([32] ++ (oct (w / 2048 % 4) ++ ([44] ++ oct (w % 64)))))) := by
  refine ⟨Nat.le_trans (dl_len 29 w (by omega)) (by omega), fun post k => c_desc 29 (by omega) (by omega) (by omega) (fun i hi => ?_) (by show w / 8192 * 8192 + w / 256 % 8 * 256 = 26112; omega) k, fun post k => ?_⟩
  · unfold genW at hg
    match i, hi with
    | 0, _ => exact (by show 0 ≠ 1; omega : mskN 0 w ≠ bitN 0)
    | 1, _ => exact (by show 0 ≠ 1; omega : mskN 1 w ≠ bitN 1)
    | 2, _ => exact (by show w / 2048 * 2048 ≠ 0; omega : mskN 2 w ≠ bitN 2)
    | 3, _ => exact (by show w / 2048 * 2048 ≠ 2048; omega : mskN 3 w ≠ bitN 3)
    | 4, _ => exact (by show w / 2048 * 2048 ≠ 4096; omega : mskN 4 w ≠ bitN 4)
    | 5, _ => exact (by show w / 2048 * 2048 ≠ 6144; omega : mskN 5 w ≠ bitN 5)
    | 6, _ => exact (by show w / 8192 * 8192 ≠ 8192; omega : mskN 6 w ≠ bitN 6)
    | 7, _ => exact (by show w / 8192 * 8192 ≠ 16384; omega : mskN 7 w ≠ bitN 7)
    | 8, _ => exact (by show w / 32768 * 32768 + w / 256 % 8 * 256 ≠ 32768; omega : mskN 8 w ≠ bitN 8)
    | 9, _ => exact (by show w / 32768 * 32768 + w / 256 % 8 * 256 ≠ 33024; omega : mskN 9 w ≠ bitN 9)
    | 10, _ => exact (by show w / 32768 * 32768 + w / 256 % 8 * 256 ≠ 33280; omega : mskN 10 w ≠ bitN 10)
    | 11, _ => exact (by show w / 32768 * 32768 + w / 256 % 8 * 256 ≠ 33536; omega : mskN 11 w ≠ bitN 11)
    | 12, _ => exact (by show w / 32768 * 32768 + w / 256 % 8 * 256 ≠ 33792; omega : mskN 12 w ≠ bitN 12)
    | 13, _ => exact (by show w / 32768 * 32768 + w / 256 % 8 * 256 ≠ 34048; omega : mskN 13 w ≠ bitN 13)
    | 14, _ => exact (by show w / 32768 * 32768 + w / 256 % 8 * 256 ≠ 34304; omega : mskN 14 w ≠ bitN 14)
    | 15, _ => exact (by show w / 32768 * 32768 + w / 256 % 8 * 256 ≠ 34560; omega : mskN 15 w ≠ bitN 15)
    | 16, _ => exact (by show w ≠ 24703; omega : mskN 16 w ≠ bitN 16)
    | 17, _ => exact (by show w ≠ 24767; omega : mskN 17 w ≠ bitN 17)
    | 18, _ => exact (by show w ≠ 26175; omega : mskN 18 w ≠ bitN 18)
    | 19, _ => exact (by show w ≠ 25919; omega : mskN 19 w ≠ bitN 19)
    | 20, _ => exact (by show w / 8192 * 8192 + w % 2048 ≠ 24895; omega : mskN 20 w ≠ bitN 20)
    | 21, _ => exact (by show w / 8192 * 8192 + w % 2048 ≠ 25407; omega : mskN 21 w ≠ bitN 21)
    | 22, _ => exact (by show w / 8192 * 8192 + w % 2048 ≠ 25663; omega : mskN 22 w ≠ bitN 22)
    | 23, _ => exact (by show w / 256 * 256 ≠ 24576; omega : mskN 23 w ≠ bitN 23)
    | 24, _ => exact (by show w / 8192 * 8192 + w / 256 % 8 * 256 ≠ 24832; omega : mskN 24 w ≠ bitN 24)
    | 25, _ => exact (by show w / 8192 * 8192 + w / 256 % 8 * 256 ≠ 25088; omega : mskN 25 w ≠ bitN 25)
    | 26, _ => exact (by show w / 8192 * 8192 + w / 256 % 8 * 256 ≠ 25344; omega : mskN 26 w ≠ bitN 26)
    | 27, _ => exact (by show w / 8192 * 8192 + w / 256 % 8 * 256 ≠ 25600; omega : mskN 27 w ≠ bitN 27)
    | 28, _ => exact (by show w / 8192 * 8192 + w / 256 % 8 * 256 ≠ 25856; omega : mskN 28 w ≠ bitN 28)
    | n + 29, h => exact absurd h (by omega)
  · have hx : tx 45 = [68, 79, 67] := by decide
    rw [hx] at k
    have key : ∀ q : SS → Prop, (∀ v', RW τ ([68, 79, 67] ++ (ctL w ++ ([32] ++ (oct (w / 2048 % 4) ++ ([44] ++ oct (w % 64)))))) v' → q v') → f_R_sayDevice q (sI τ 28 0) (nI w) := by
      intro q k
      refine r_gen (by omega) (by omega) hg ?_
      rw [hq]
      simp (disch := omega) only [f_R_sayDevice_103, f_R_sayDevice_115, f_R_sayDevice_137, nm, q_lit, q_add, q_sub, q_subN, q_n1, q_mul, q_div, q_nm, q_and, q_or, q_xor, q_shr, q_shl, q_cl, q_a1, q_a3, q_a7, q_a31, q_a63, q_a255, q_a15, q_a16, q_a17, q_a2, q_a4, q_a8, q_a1024, q_a65536, Nat.reduceMod, Nat.reducePow, Nat.reduceDiv, Nat.reduceMul, Nat.reduceAdd, Nat.reduceSub, Nat.reduceEqDiff, q_ltT, q_ltF, q_leT, q_leF, q_eqT, q_eqF, q_inT, q_bz0, q_bz1, b_T, b_F, true_and, and_true, if_true, if_false]
      refine rw_say (rw_0 τ) (by simp) (fun u1 g1 => ?_)
      refine rw_say g1 (by simp) (fun u2 g2 => ?_)
      refine r_172 (W := 6) g2 (by simp) (by omega) (by omega) (fun u3 g3 => k u3 ?_)
      simpa only [List.append_assoc, List.nil_append, List.cons_append, if_true, if_false, Nat.reduceEqDiff] using g3
    by_cases ha : w / 2048 % 4 = 0
    · simp (disch := omega) only [f_R_tell_103, nm, q_lit, q_add, q_sub, q_subN, q_n1, q_mul, q_div, q_nm, q_and, q_or, q_xor, q_shr, q_shl, q_cl, q_a1, q_a3, q_a7, q_a31, q_a63, q_a255, q_a15, q_a16, q_a17, q_a2, q_a4, q_a8, q_a1024, q_a65536, Nat.reduceMod, Nat.reducePow, Nat.reduceDiv, Nat.reduceMul, Nat.reduceAdd, Nat.reduceSub, Nat.reduceEqDiff, q_ltT, q_ltF, q_leT, q_leF, q_eqT, q_eqF, q_inT, q_bz0, q_bz1, b_T, b_F, true_and, and_true, if_true, if_false, hd, ha, hq]
      exact key _ k
    · simp (disch := omega) only [f_R_tell_103, nm, q_lit, q_add, q_sub, q_subN, q_n1, q_mul, q_div, q_nm, q_and, q_or, q_xor, q_shr, q_shl, q_cl, q_a1, q_a3, q_a7, q_a31, q_a63, q_a255, q_a15, q_a16, q_a17, q_a2, q_a4, q_a8, q_a1024, q_a65536, Nat.reduceMod, Nat.reducePow, Nat.reduceDiv, Nat.reduceMul, Nat.reduceAdd, Nat.reduceSub, Nat.reduceEqDiff, q_ltT, q_ltF, q_leT, q_leF, q_eqT, q_eqF, q_inT, q_bz0, q_bz1, b_T, b_F, true_and, and_true, if_true, if_false, hd, hq]
      exact key _ k
theorem tl_all {σ τ : SS} {w : Nat} (hw : w < 65536) : ∃ l, TL σ τ w l := by
  by_cases h1 : 32768 ≤ w
  · have hq : w / 256 % 8 = 0 ∨ w / 256 % 8 = 1 ∨ w / 256 % 8 = 2 ∨ w / 256 % 8 = 3 ∨ w / 256 % 8 = 4 ∨ w / 256 % 8 = 5 ∨ w / 256 % 8 = 6 ∨ w / 256 % 8 = 7 := by omega
    rcases hq with q | q | q | q | q | q | q | q
    · exact ⟨_, tl_8 hw h1 q⟩
    · exact ⟨_, tl_9 hw h1 q⟩
    · exact ⟨_, tl_10 hw h1 q⟩
    · exact ⟨_, tl_11 hw h1 q⟩
    · exact ⟨_, tl_12 hw h1 q⟩
    · exact ⟨_, tl_13 hw h1 q⟩
    · exact ⟨_, tl_14 hw h1 q⟩
    · exact ⟨_, tl_15 hw h1 q⟩
  have hq : w / 2048 = 0 ∨ w / 2048 = 1 ∨ w / 2048 = 2 ∨ w / 2048 = 3 ∨ w / 8192 = 1 ∨ w / 8192 = 2 ∨ w / 8192 = 3 := by omega
  rcases hq with q | q | q | q | q | q | hd
  · exact ⟨_, tl_2 q⟩
  · exact ⟨_, tl_3 q⟩
  · exact ⟨_, tl_4 q⟩
  · exact ⟨_, tl_5 q⟩
  · exact ⟨_, tl_6 q⟩
  · exact ⟨_, tl_7 q⟩
  by_cases h34 : 0 < w / 2048 % 4 ∧ (w / 256 % 8 = 0 ∨ w / 256 % 8 = 7)
  · exact ⟨_, tl_34 hd h34.1 h34.2⟩
  have hC : w / 64 % 4 = 0 ∨ w / 64 % 4 = 1 ∨ w / 64 % 4 = 2 ∨ w / 64 % 4 = 3 := by omega
  have hW : w / 256 % 8 = 0 ∨ w / 256 % 8 = 1 ∨ w / 256 % 8 = 2 ∨ w / 256 % 8 = 3 ∨ w / 256 % 8 = 4 ∨ w / 256 % 8 = 5 ∨ w / 256 % 8 = 6 ∨ w / 256 % 8 = 7 := by omega
  by_cases hg : genW w
  · rcases hW with q | q | q | q | q | q | q | q
    · exact ⟨_, tl_23 hd (by omega) q hg⟩
    · exact ⟨_, tl_24 hd q hg⟩
    · exact ⟨_, tl_25 hd q hg⟩
    · exact ⟨_, tl_26 hd q hg⟩
    · exact ⟨_, tl_27 hd q hg⟩
    · exact ⟨_, tl_28 hd q hg⟩
    · exact ⟨_, tl_29 hd q hg⟩
    · rcases hC with c | c | c | c
      · exact ⟨_, tl_30 hd (by omega) q c⟩
      · exact ⟨_, tl_31 hd (by omega) q c⟩
      · exact ⟨_, tl_32 hd (by omega) q c⟩
      · exact ⟨_, tl_33 hd (by omega) q c⟩
  · unfold genW at hg
    have h63 : w % 64 = 63 := by omega
    rcases hW with q | q | q | q | q | q | q | q
    · rcases hC with c | c | c | c
      · omega
      · exact ⟨_, tl_16 hd (by omega) q c h63⟩
      · exact ⟨_, tl_17 hd (by omega) q c h63⟩
      · omega
    · exact ⟨_, tl_20 hd q (by omega) h63⟩
    · omega
    · exact ⟨_, tl_21 hd q (by omega) h63⟩
    · exact ⟨_, tl_22 hd q (by omega) h63⟩
    · exact ⟨_, tl_19 hd (by omega) q (by omega) h63⟩
    · exact ⟨_, tl_18 hd (by omega) q (by omega) h63⟩
    · rcases hC with c | c | c | c
      · exact ⟨_, tl_30 hd (by omega) q c⟩
      · exact ⟨_, tl_31 hd (by omega) q c⟩
      · exact ⟨_, tl_32 hd (by omega) q c⟩
      · exact ⟨_, tl_33 hd (by omega) q c⟩
theorem pt_tell (j : Nat) : PT_tell (RelJ j) (RelJ (j + 1)) := by
  intro σ τ g x1 hR
  have hR := RelJ_mono j σ τ hR
  by_cases h1 : x1 < nI 0
  · simp (disch := omega) only [f_N_tell, f_R_tell, f_R_tell_17, lawT, lawE, f_R_thrown, f_R_fails, f_R_fails_10, f_R_within, f_N_isWithin, f_N_require, f_N_requireRoom, uL, false_implies, true_implies, implies_true, or_false, false_or, and_self, or_true, true_or, if_true, if_false, nm, q_lit, q_add, q_sub, q_subN, q_n1, q_mul, q_div, q_nm, q_and, q_or, q_xor, q_shr, q_shl, q_cl, q_a1, q_a3, q_a7, q_a31, q_a63, q_a255, q_a15, q_a16, q_a17, q_a2, q_a4, q_a8, q_a1024, q_a65536, Nat.reduceMod, Nat.reducePow, Nat.reduceDiv, Nat.reduceMul, Nat.reduceAdd, Nat.reduceSub, Nat.reduceEqDiff, q_ltT, q_ltF, q_leT, q_leF, q_eqT, q_eqF, q_inT, q_bz0, q_bz1, b_T, b_F, true_and, and_true, if_true, if_false, sI_1, sI_2, sA_1, sA_2, sA_3, u_at, h1]; exact hR
  by_cases h2 : nI 32767 < x1
  · simp (disch := omega) only [f_N_tell, f_R_tell, f_R_tell_17, lawT, lawE, f_R_thrown, f_R_fails, f_R_fails_10, f_R_within, f_N_isWithin, f_N_require, f_N_requireRoom, uL, false_implies, true_implies, implies_true, or_false, false_or, and_self, or_true, true_or, if_true, if_false, nm, q_lit, q_add, q_sub, q_subN, q_n1, q_mul, q_div, q_nm, q_and, q_or, q_xor, q_shr, q_shl, q_cl, q_a1, q_a3, q_a7, q_a31, q_a63, q_a255, q_a15, q_a16, q_a17, q_a2, q_a4, q_a8, q_a1024, q_a65536, Nat.reduceMod, Nat.reducePow, Nat.reduceDiv, Nat.reduceMul, Nat.reduceAdd, Nat.reduceSub, Nat.reduceEqDiff, q_ltT, q_ltF, q_leT, q_leF, q_eqT, q_eqF, q_inT, q_bz0, q_bz1, b_T, b_F, true_and, and_true, if_true, if_false, sI_1, sI_2, sA_1, sA_2, sA_3, u_at, h1, h2]; exact hR
  obtain ⟨a, ha, rfl⟩ := c0_31 h1 (by omega) h2
  obtain ⟨⟨m1, m2, m3, m4⟩, hr⟩ := id hR
  obtain ⟨w, hw, vw⟩ := m2 a
  have vw' : τ.2.1 1 a = nI w := by rw [← m1]; exact vw
  obtain ⟨l, hl, tc, tr⟩ := tl_all (σ := σ) (τ := sI τ 29 (nI 0)) hw
  simp (disch := omega) only [f_N_tell, lawT, lawE, f_R_thrown, f_R_fails, f_R_fails_10, f_R_within, f_N_isWithin, f_N_require, f_N_requireRoom, uL, false_implies, true_implies, implies_true, or_false, false_or, and_self, or_true, true_or, if_true, if_false, nm, q_lit, q_add, q_sub, q_subN, q_n1, q_mul, q_div, q_nm, q_and, q_or, q_xor, q_shr, q_shl, q_cl, q_a1, q_a3, q_a7, q_a31, q_a63, q_a255, q_a15, q_a16, q_a17, q_a2, q_a4, q_a8, q_a1024, q_a65536, Nat.reduceMod, Nat.reducePow, Nat.reduceDiv, Nat.reduceMul, Nat.reduceAdd, Nat.reduceSub, Nat.reduceEqDiff, q_ltT, q_ltF, q_leT, q_leF, q_eqT, q_eqF, q_inT, q_bz0, q_bz1, b_T, b_F, true_and, and_true, if_true, if_false]
  refine c_load (by omega) ?_
  rw [vw]
  refine tc _ (fun u' hu => ?_)
  have hh := tr (fun b9 v => v.1 29 = nI 0 ∧ (u'.1 39).toInt64 = b9.toInt64 ∧ RelJ (j + 1) u' v) (fun v' hv => ?_)
  · simp (disch := omega) only [f_R_tell, f_R_tell_17, lawT, lawE, f_R_thrown, f_R_fails, f_R_fails_10, f_R_within, f_N_isWithin, f_N_require, f_N_requireRoom, uL, false_implies, true_implies, implies_true, or_false, false_or, and_self, or_true, true_or, if_true, if_false, nm, q_lit, q_add, q_sub, q_subN, q_n1, q_mul, q_div, q_nm, q_and, q_or, q_xor, q_shr, q_shl, q_cl, q_a1, q_a3, q_a7, q_a31, q_a63, q_a255, q_a15, q_a16, q_a17, q_a2, q_a4, q_a8, q_a1024, q_a65536, Nat.reduceMod, Nat.reducePow, Nat.reduceDiv, Nat.reduceMul, Nat.reduceAdd, Nat.reduceSub, Nat.reduceEqDiff, q_ltT, q_ltF, q_leT, q_leF, q_eqT, q_eqF, q_inT, q_bz0, q_bz1, b_T, b_F, true_and, and_true, if_true, if_false, sI_1, sI_2, sA_1, sA_2, sA_3, u_at, vw'] at hh ⊢
    exact hh
  · obtain ⟨f, rfl, hf⟩ := hu
    obtain ⟨f', rfl, hf'⟩ := hv
    obtain ⟨q1, q2, q3, q4, q5, q6, q7, q8, q9, q10, q11, q12⟩ := hR
    exact ⟨rfl, rfl, q1, q2, q3, q4, q5, q6, q7, q8, q9, q10, q11, ⟨l.length, hl, rfl, rfl, fun i hi => (hf i hi).trans (hf' i hi).symm⟩⟩
