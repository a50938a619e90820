/-! the pure side: tell, whole -/
def fmN (i : Nat) : Nat := ([0, 1, 2, 2, 2, 2, 3, 3, 4, 4, 4, 4, 4, 4, 4, 4, 8, 8, 8, 8, 9, 9, 9, 5, 6, 6, 6, 6, 6, 6, 7, 7, 7, 7, 10] : List Nat).getD i 0
def ltN (i : Nat) : Nat := ([16, 17, 18, 19, 20, 21, 22, 23, 24, 25, 26, 27, 28, 29, 30, 31, 32, 33, 34, 35, 36, 37, 38, 39, 40, 41, 42, 43, 44, 45, 46, 47, 48, 49, 4] : List Nat).getD i 0
theorem eS_F : ∀ i, i < 35 → eS_form i = nI (fmN i) ∧ eS_letters i = ltN i ∧ ltN i < 50 := by decide +kernel
def ctL (w : Nat) : List Nat := if w / 64 % 4 = 0 then [] else [kc 3 (w / 64 % 4 - 1)]
theorem ctL_len (w : Nat) : (ctL w).length ≤ 1 := by unfold ctL; split <;> simp
def fL (f w : Nat) : List Nat := if f = 2 then [32] ++ adrL w else if f = 3 then [32] ++ (oct (w / 2048 % 4) ++ ([44] ++ adrL w)) else if f = 4 then arL w else if f = 5 then ctL w ++ ([32] ++ oct (w % 64)) else if f = 6 then ctL w ++ ([32] ++ (oct (w / 2048 % 4) ++ ([44] ++ oct (w % 64)))) else if f = 7 then [32] ++ oct (w % 64) else if f = 8 then [] else if f = 9 then [32] ++ oct (w / 2048 % 4) else oct w
theorem fL_len (f w : Nat) : (fL f w).length ≤ 24 := by
  have h1 := oct_len (w / 2048 % 4)
  have h2 := oct_len (w % 64)
  have h3 := oct_len w
  have h4 := adrL_len w
  have h5 := arL_len w
  have h6 := ctL_len w
  unfold fL
  (repeat' split) <;> (try simp only [List.length_append, List.length_cons, List.length_nil]) <;> omega
theorem c_tr {σ0 u : SS} {l : List Nat} {w b : Nat} {post : SS → Prop} (hu : CW σ0 l u) (hl : l.length + 15 ≤ 32) (hw : w < 65536) (hb : b ≤ 1) (k : ∀ u', CW σ0 (l ++ (ctL w ++ ([32] ++ (if b = 0 then oct (w % 64) else oct (w / 2048 % 4) ++ ([44] ++ oct (w % 64)))))) u' → post u') : f_T_writeTransfer post u (nI w) (nI b) := by
  have h1 := oct_len (w / 2048 % 4)
  have h6 := ctL_len w
  simp (disch := omega) only [f_T_writeTransfer, f_T_writeTransfer_38, nm, q_lit, q_add, q_sub, q_subN, q_n1, q_mul, q_div, q_nm, q_and, q_or, q_xor, q_shr, q_shl, q_cl, q_a1, q_a3, q_a7, q_a31, q_a63, q_a255, q_a15, q_a16, q_a17, q_a2, q_a4, q_a8, q_a1024, q_a65536, Nat.reduceMod, Nat.reducePow, Nat.reduceDiv, Nat.reduceMul, Nat.reduceAdd, Nat.reduceSub, Nat.reduceEqDiff]
  refine cw_let (Or.inr (Or.inr rfl)) (by omega) hu (by omega) (fun u1 g1 => ?_)
  have g1 : CW σ0 (l ++ ctL w) u1 := g1
  refine cw_write g1 (by rw [List.length_append]; omega) (by omega) (fun u2 g2 => ?_)
  rcases Nat.le_one_iff_eq_zero_or_eq_one.mp hb with rfl | rfl
  · rw [if_pos rfl] at k
    refine b_t rfl ?_
    refine cw_num g2 (by simp only [List.length_append, List.length_cons, List.length_nil]; omega) (by omega) (fun u3 g3 => k u3 ?_)
    simpa only [List.append_assoc] using g3
  · rw [if_neg (by omega)] at k
    refine b_f (by decide) ?_
    refine cw_num g2 (by simp only [List.length_append, List.length_cons, List.length_nil]; omega) (by omega) (fun u3 g3 => ?_)
    refine cw_write g3 (by simp only [List.length_append, List.length_cons, List.length_nil]; omega) (by omega) (fun u4 g4 => ?_)
    refine cw_num g4 (by simp only [List.length_append, List.length_cons, List.length_nil]; omega) (by omega) (fun u5 g5 => k u5 ?_)
    simpa only [List.append_assoc] using g5
theorem c_desc {σ : SS} {w : Nat} (t : Nat) {post : Int32 → SS → Prop} (hw : w < 65536) (ht : t < 35) (ht2 : 2 ≤ t) (h1 : ∀ i, i < t → mskN i w ≠ bitN i) (h2 : mskN t w = bitN t) (k : ∀ u', CW σ (tx (ltN t) ++ fL (fmN t) w) u' → post (u'.1 39) u') : f_T_describe post σ (nI w) := by
  obtain ⟨e1, e2, e3⟩ := eS_F t ht
  have hx := tx_len (ltN t) e3
  have o1 := oct_len (w / 2048 % 4)
  simp only [f_T_describe, nm]
  refine mk_t t hw ht h1 h2 ⟨ht, ?_⟩
  rw [e1, e2]
  have c0 : CW σ [] (sI σ 39 0) := ⟨σ.2.1 24, by rw [setM_self]; rfl, fun i hi => by simp at hi⟩
  refine cw_text e3 c0 (by simp) (fun u1 g1 => ?_)
  rw [List.nil_append] at g1
  have hq : fmN t = 2 ∨ fmN t = 3 ∨ fmN t = 4 ∨ fmN t = 5 ∨ fmN t = 6 ∨ fmN t = 7 ∨ fmN t = 8 ∨ fmN t = 9 ∨ fmN t = 10 := by
    have : ∀ t, t < 35 → 2 ≤ t → fmN t = 2 ∨ fmN t = 3 ∨ fmN t = 4 ∨ fmN t = 5 ∨ fmN t = 6 ∨ fmN t = 7 ∨ fmN t = 8 ∨ fmN t = 9 ∨ fmN t = 10 := by decide +kernel
    exact this t ht ht2
  rcases hq with c | c | c | c | c | c | c | c | c <;> rw [c] at k ⊢ <;> unfold fL at k <;> simp (disch := omega) only [f_T_describe_140, nm, q_lit, q_add, q_sub, q_subN, q_n1, q_mul, q_div, q_nm, q_and, q_or, q_xor, q_shr, q_shl, q_cl, q_a1, q_a3, q_a7, q_a31, q_a63, q_a255, q_a15, q_a16, q_a17, q_a2, q_a4, q_a8, q_a1024, q_a65536, Nat.reduceMod, Nat.reducePow, Nat.reduceDiv, Nat.reduceMul, Nat.reduceAdd, Nat.reduceSub, Nat.reduceEqDiff, q_ltT, q_ltF, q_leT, q_leF, q_eqT, q_eqF, q_inT, q_bz0, q_bz1, b_T, b_F, true_and, and_true, if_true, if_false] at k ⊢
  · refine cw_write g1 (by omega) (by omega) (fun u2 g2 => ?_)
    refine cw_addr g2 (by simp only [List.length_append, List.length_cons, List.length_nil]; omega) hw (fun u3 g3 => k u3 ?_)
    simpa only [List.append_assoc] using g3
  · refine cw_write g1 (by omega) (by omega) (fun u2 g2 => ?_)
    refine cw_num g2 (by simp only [List.length_append, List.length_cons, List.length_nil]; omega) (by omega) (fun u3 g3 => ?_)
    refine cw_write g3 (by simp only [List.length_append, List.length_cons, List.length_nil]; omega) (by omega) (fun u4 g4 => ?_)
    refine cw_addr g4 (by simp only [List.length_append, List.length_cons, List.length_nil]; omega) hw (fun u5 g5 => k u5 ?_)
    simpa only [List.append_assoc] using g5
  · exact cw_ar g1 (by omega) hw k
  · refine c_tr (b := 0) g1 (by omega) hw (by omega) (fun u2 g2 => k u2 ?_)
    rw [if_pos rfl] at g2; exact g2
  · refine c_tr (b := 1) g1 (by omega) hw (by omega) (fun u2 g2 => k u2 ?_)
    rw [if_neg (by omega)] at g2; exact g2
  · refine cw_write g1 (by omega) (by omega) (fun u2 g2 => ?_)
    refine cw_num g2 (by simp only [List.length_append, List.length_cons, List.length_nil]; omega) (by omega) (fun u3 g3 => k u3 ?_)
    simpa only [List.append_assoc] using g3
  · refine k u1 ?_
    rw [List.append_nil]; exact g1
  · refine cw_write g1 (by omega) (by omega) (fun u2 g2 => ?_)
    refine cw_num g2 (by simp only [List.length_append, List.length_cons, List.length_nil]; omega) (by omega) (fun u3 g3 => k u3 ?_)
    simpa only [List.append_assoc] using g3
  · exact cw_num g1 (by omega) hw k
theorem nt_18 : (4869456 : Int64) = jI (nameR 0 (tx 18)) := by decide +kernel
theorem nt_19 : (4870994 : Int64) = jI (nameR 0 (tx 19)) := by decide +kernel
theorem nt_20 : (4805466 : Int64) = jI (nameR 0 (tx 20)) := by decide +kernel
theorem nt_21 : (4477786 : Int64) = jI (nameR 0 (tx 21)) := by decide +kernel
theorem nt_22 : (4998209 : Int64) = jI (nameR 0 (tx 22)) := by decide +kernel
theorem nt_23 : (5461057 : Int64) = jI (nameR 0 (tx 23)) := by decide +kernel
theorem nt_24 : (4411213 : Int64) = jI (nameR 0 (tx 24)) := by decide +kernel
theorem nt_25 : (5129543 : Int64) = jI (nameR 0 (tx 25)) := by decide +kernel
theorem nt_26 : (5066582 : Int64) = jI (nameR 0 (tx 26)) := by decide +kernel
theorem nt_27 : (4804163 : Int64) = jI (nameR 0 (tx 27)) := by decide +kernel
theorem nt_28 : (4277315 : Int64) = jI (nameR 0 (tx 28)) := by decide +kernel
theorem nt_29 : (5461314 : Int64) = jI (nameR 0 (tx 29)) := by decide +kernel
theorem nt_30 : (4277316 : Int64) = jI (nameR 0 (tx 30)) := by decide +kernel
theorem nt_31 : (4279876 : Int64) = jI (nameR 0 (tx 31)) := by decide +kernel
theorem nt_32 : (314846758222 : Int64) = jI (nameR 0 (tx 32)) := by decide +kernel
theorem nt_33 : (314846757971 : Int64) = jI (nameR 0 (tx 33)) := by decide +kernel
theorem nt_34 : (1212238932 : Int64) = jI (nameR 0 (tx 34)) := by decide +kernel
theorem nt_35 : (314863407956 : Int64) = jI (nameR 0 (tx 35)) := by decide +kernel
theorem nt_36 : (353349223507 : Int64) = jI (nameR 0 (tx 36)) := by decide +kernel
theorem nt_37 : (1229870145 : Int64) = jI (nameR 0 (tx 37)) := by decide +kernel
theorem nt_38 : (1297304399 : Int64) = jI (nameR 0 (tx 38)) := by decide +kernel
theorem nt_39 : (5130575 : Int64) = jI (nameR 0 (tx 39)) := by decide +kernel
theorem nt_40 : (4475201 : Int64) = jI (nameR 0 (tx 40)) := by decide +kernel
theorem nt_41 : (4476737 : Int64) = jI (nameR 0 (tx 41)) := by decide +kernel
theorem nt_42 : (4475202 : Int64) = jI (nameR 0 (tx 42)) := by decide +kernel
theorem nt_43 : (4476738 : Int64) = jI (nameR 0 (tx 43)) := by decide +kernel
theorem nt_44 : (4475203 : Int64) = jI (nameR 0 (tx 44)) := by decide +kernel
theorem nt_45 : (4476739 : Int64) = jI (nameR 0 (tx 45)) := by decide +kernel
theorem nt_46 : (357745836622 : Int64) = jI (nameR 0 (tx 46)) := by decide +kernel
theorem nt_47 : (357745836634 : Int64) = jI (nameR 0 (tx 47)) := by decide +kernel
theorem nt_48 : (357745837134 : Int64) = jI (nameR 0 (tx 48)) := by decide +kernel
theorem nt_49 : (357745837146 : Int64) = jI (nameR 0 (tx 49)) := by decide +kernel
/-- both write the same characters -/
def TL (σ τ : SS) (w : Nat) (l : List Nat) : Prop := l.length ≤ 32 ∧ (∀ post : Int32 → SS → Prop, (∀ u', CW σ l u' → post (u'.1 39) u') → f_T_describe post σ (nI w)) ∧ (∀ post : Int32 → SS → Prop, (∀ v', RW τ l v' → post (v'.1 28) v') → br (nI w < 32768) (br ((nI w / 8192) = 3) (nm ((nI w / 256) - (nI w / 256) / 8 * 8) fun x4_26 => br (nI (w / 2048 % 4) ≤ 0) (f_R_tell_103 post (sI τ 28 0) (nI w)) (br (x4_26 = 0) (f_R_tell_95 post (sI τ 28 0) (nI w)) (br (x4_26 = 7) (f_R_tell_95 post (sI τ 28 0) (nI w)) (f_R_tell_103 post (sI τ 28 0) (nI w))))) (br ((nI w / 8192) ≤ 0) (br (nI (w / 2048 % 4) = 0) (f_R_tell_202 post (sI τ 28 0) (nI w) 4869456) (br (nI (w / 2048 % 4) = 1) (f_R_tell_202 post (sI τ 28 0) (nI w) 4870994) (br (nI (w / 2048 % 4) = 2) (f_R_tell_202 post (sI τ 28 0) (nI w) 4805466) (f_R_tell_202 post (sI τ 28 0) (nI w) 4477786)))) (br ((nI w / 8192) = 1) (f_R_tell_138 post (sI τ 28 0) (nI w) (nI (w / 2048 % 4)) 4998209) (f_R_tell_138 post (sI τ 28 0) (nI w) (nI (w / 2048 % 4)) 5461057)))) (f_R_sayReckoning (fun σ_27 => post (σ_27.1 28) σ_27) (sI τ 28 0) (nI w)))
theorem dl_len (t w : Nat) (ht : t < 35) : (tx (ltN t) ++ fL (fmN t) w).length ≤ 30 := by
  have h1 := tx_len (ltN t) (eS_F t ht).2.2
  have h2 := fL_len (fmN t) w
  rw [List.length_append]; omega
theorem rw_0 (τ : SS) : RW τ [] (sI τ 28 0) := ⟨τ.2.1 18, by rw [setM_self]; rfl, fun i hi => by simp at hi⟩
theorem tl_8 {σ τ : SS} {w : Nat} (hw : w < 65536) (h1 : 32768 ≤ w) (h2 : w / 256 % 8 = 0) : TL σ τ w (tx 24 ++ arL w) := by
  refine ⟨Nat.le_trans (dl_len 8 w (by omega)) (by omega), fun post k => c_desc 8 hw (by omega) (by omega) (fun i hi => ?_) (by show w / 32768 * 32768 + w / 256 % 8 * 256 = 32768; omega) k, fun post k => ?_⟩
  · match i, hi with
    | 0, _ => exact (by show 0 ≠ 1; omega : mskN 0 w ≠ bitN 0)
    | 1, _ => exact (by show 0 ≠ 1; omega : mskN 1 w ≠ bitN 1)
    | 2, _ => exact (by show w / 2048 * 2048 ≠ 0; omega : mskN 2 w ≠ bitN 2)
    | 3, _ => exact (by show w / 2048 * 2048 ≠ 2048; omega : mskN 3 w ≠ bitN 3)
    | 4, _ => exact (by show w / 2048 * 2048 ≠ 4096; omega : mskN 4 w ≠ bitN 4)
    | 5, _ => exact (by show w / 2048 * 2048 ≠ 6144; omega : mskN 5 w ≠ bitN 5)
    | 6, _ => exact (by show w / 8192 * 8192 ≠ 8192; omega : mskN 6 w ≠ bitN 6)
    | 7, _ => exact (by show w / 8192 * 8192 ≠ 16384; omega : mskN 7 w ≠ bitN 7)
    | n + 8, h => exact absurd h (by omega)
  · simp (disch := omega) only [f_R_sayReckoning, f_R_functionName, nm, q_lit, q_add, q_sub, q_subN, q_n1, q_mul, q_div, q_nm, q_and, q_or, q_xor, q_shr, q_shl, q_cl, q_a1, q_a3, q_a7, q_a31, q_a63, q_a255, q_a15, q_a16, q_a17, q_a2, q_a4, q_a8, q_a1024, q_a65536, Nat.reduceMod, Nat.reducePow, Nat.reduceDiv, Nat.reduceMul, Nat.reduceAdd, Nat.reduceSub, Nat.reduceEqDiff, q_ltT, q_ltF, q_leT, q_leF, q_eqT, q_eqF, q_inT, q_bz0, q_bz1, b_T, b_F, true_and, and_true, if_true, if_false, h2]
    refine rw_name (tx 24) nt_24 (tx_N _ (by omega) (by omega)) (rw_0 τ) (by simp) (fun u1 g1 => ?_)
    rw [List.nil_append] at g1
    have := rw_ar (w := w) (post := fun u => post (u.1 28) u) g1 (by have := tx_len 24 (by omega); omega) hw k
    simp (disch := omega) only [nm, q_lit, q_add, q_sub, q_subN, q_n1, q_mul, q_div, q_nm, q_and, q_or, q_xor, q_shr, q_shl, q_cl, q_a1, q_a3, q_a7, q_a31, q_a63, q_a255, q_a15, q_a16, q_a17, q_a2, q_a4, q_a8, q_a1024, q_a65536, Nat.reduceMod, Nat.reducePow, Nat.reduceDiv, Nat.reduceMul, Nat.reduceAdd, Nat.reduceSub, Nat.reduceEqDiff, q_ltT, q_ltF, q_leT, q_leF, q_eqT, q_eqF, q_inT, q_bz0, q_bz1, b_T, b_F, true_and, and_true, if_true, if_false] at this
    exact this
theorem tl_9 {σ τ : SS} {w : Nat} (hw : w < 65536) (h1 : 32768 ≤ w) (h2 : w / 256 % 8 = 1) : TL σ τ w (tx 25 ++ arL w) := by
  refine ⟨Nat.le_trans (dl_len 9 w (by omega)) (by omega), fun post k => c_desc 9 hw (by omega) (by omega) (fun i hi => ?_) (by show w / 32768 * 32768 + w / 256 % 8 * 256 = 33024; omega) k, fun post k => ?_⟩
  · match i, hi with
    | 0, _ => exact (by show 0 ≠ 1; omega : mskN 0 w ≠ bitN 0)
    | 1, _ => exact (by show 0 ≠ 1; omega : mskN 1 w ≠ bitN 1)
    | 2, _ => exact (by show w / 2048 * 2048 ≠ 0; omega : mskN 2 w ≠ bitN 2)
    | 3, _ => exact (by show w / 2048 * 2048 ≠ 2048; omega : mskN 3 w ≠ bitN 3)
    | 4, _ => exact (by show w / 2048 * 2048 ≠ 4096; omega : mskN 4 w ≠ bitN 4)
    | 5, _ => exact (by show w / 2048 * 2048 ≠ 6144; omega : mskN 5 w ≠ bitN 5)
    | 6, _ => exact (by show w / 8192 * 8192 ≠ 8192; omega : mskN 6 w ≠ bitN 6)
    | 7, _ => exact (by show w / 8192 * 8192 ≠ 16384; omega : mskN 7 w ≠ bitN 7)
    | 8, _ => exact (by show w / 32768 * 32768 + w / 256 % 8 * 256 ≠ 32768; omega : mskN 8 w ≠ bitN 8)
    | n + 9, h => exact absurd h (by omega)
  · simp (disch := omega) only [f_R_sayReckoning, f_R_functionName, nm, q_lit, q_add, q_sub, q_subN, q_n1, q_mul, q_div, q_nm, q_and, q_or, q_xor, q_shr, q_shl, q_cl, q_a1, q_a3, q_a7, q_a31, q_a63, q_a255, q_a15, q_a16, q_a17, q_a2, q_a4, q_a8, q_a1024, q_a65536, Nat.reduceMod, Nat.reducePow, Nat.reduceDiv, Nat.reduceMul, Nat.reduceAdd, Nat.reduceSub, Nat.reduceEqDiff, q_ltT, q_ltF, q_leT, q_leF, q_eqT, q_eqF, q_inT, q_bz0, q_bz1, b_T, b_F, true_and, and_true, if_true, if_false, h2]
    refine rw_name (tx 25) nt_25 (tx_N _ (by omega) (by omega)) (rw_0 τ) (by simp) (fun u1 g1 => ?_)
    rw [List.nil_append] at g1
    have := rw_ar (w := w) (post := fun u => post (u.1 28) u) g1 (by have := tx_len 25 (by omega); omega) hw k
    simp (disch := omega) only [nm, q_lit, q_add, q_sub, q_subN, q_n1, q_mul, q_div, q_nm, q_and, q_or, q_xor, q_shr, q_shl, q_cl, q_a1, q_a3, q_a7, q_a31, q_a63, q_a255, q_a15, q_a16, q_a17, q_a2, q_a4, q_a8, q_a1024, q_a65536, Nat.reduceMod, Nat.reducePow, Nat.reduceDiv, Nat.reduceMul, Nat.reduceAdd, Nat.reduceSub, Nat.reduceEqDiff, q_ltT, q_ltF, q_leT, q_leF, q_eqT, q_eqF, q_inT, q_bz0, q_bz1, b_T, b_F, true_and, and_true, if_true, if_false] at this
    exact this
theorem tl_10 {σ τ : SS} {w : Nat} (hw : w < 65536) (h1 : 32768 ≤ w) (h2 : w / 256 % 8 = 2) : TL σ τ w (tx 26 ++ arL w) := by
  refine ⟨Nat.le_trans (dl_len 10 w (by omega)) (by omega), fun post k => c_desc 10 hw (by omega) (by omega) (fun i hi => ?_) (by show w / 32768 * 32768 + w / 256 % 8 * 256 = 33280; omega) k, fun post k => ?_⟩
  · match i, hi with
    | 0, _ => exact (by show 0 ≠ 1; omega : mskN 0 w ≠ bitN 0)
    | 1, _ => exact (by show 0 ≠ 1; omega : mskN 1 w ≠ bitN 1)
    | 2, _ => exact (by show w / 2048 * 2048 ≠ 0; omega : mskN 2 w ≠ bitN 2)
    | 3, _ => exact (by show w / 2048 * 2048 ≠ 2048; omega : mskN 3 w ≠ bitN 3)
    | 4, _ => exact (by show w / 2048 * 2048 ≠ 4096; omega : mskN 4 w ≠ bitN 4)
    | 5, _ => exact (by show w / 2048 * 2048 ≠ 6144; omega : mskN 5 w ≠ bitN 5)
    | 6, _ => exact (by show w / 8192 * 8192 ≠ 8192; omega : mskN 6 w ≠ bitN 6)
    | 7, _ => exact (by show w / 8192 * 8192 ≠ 16384; omega : mskN 7 w ≠ bitN 7)
    | 8, _ => exact (by show w / 32768 * 32768 + w / 256 % 8 * 256 ≠ 32768; omega : mskN 8 w ≠ bitN 8)
    | 9, _ => exact (by show w / 32768 * 32768 + w / 256 % 8 * 256 ≠ 33024; omega : mskN 9 w ≠ bitN 9)
    | n + 10, h => exact absurd h (by omega)
  · simp (disch := omega) only [f_R_sayReckoning, f_R_functionName, nm, q_lit, q_add, q_sub, q_subN, q_n1, q_mul, q_div, q_nm, q_and, q_or, q_xor, q_shr, q_shl, q_cl, q_a1, q_a3, q_a7, q_a31, q_a63, q_a255, q_a15, q_a16, q_a17, q_a2, q_a4, q_a8, q_a1024, q_a65536, Nat.reduceMod, Nat.reducePow, Nat.reduceDiv, Nat.reduceMul, Nat.reduceAdd, Nat.reduceSub, Nat.reduceEqDiff, q_ltT, q_ltF, q_leT, q_leF, q_eqT, q_eqF, q_inT, q_bz0, q_bz1, b_T, b_F, true_and, and_true, if_true, if_false, h2]
    refine rw_name (tx 26) nt_26 (tx_N _ (by omega) (by omega)) (rw_0 τ) (by simp) (fun u1 g1 => ?_)
    rw [List.nil_append] at g1
    have := rw_ar (w := w) (post := fun u => post (u.1 28) u) g1 (by have := tx_len 26 (by omega); omega) hw k
    simp (disch := omega) only [nm, q_lit, q_add, q_sub, q_subN, q_n1, q_mul, q_div, q_nm, q_and, q_or, q_xor, q_shr, q_shl, q_cl, q_a1, q_a3, q_a7, q_a31, q_a63, q_a255, q_a15, q_a16, q_a17, q_a2, q_a4, q_a8, q_a1024, q_a65536, Nat.reduceMod, Nat.reducePow, Nat.reduceDiv, Nat.reduceMul, Nat.reduceAdd, Nat.reduceSub, Nat.reduceEqDiff, q_ltT, q_ltF, q_leT, q_leF, q_eqT, q_eqF, q_inT, q_bz0, q_bz1, b_T, b_F, true_and, and_true, if_true, if_false] at this
    exact this
theorem tl_11 {σ τ : SS} {w : Nat} (hw : w < 65536) (h1 : 32768 ≤ w) (h2 : w / 256 % 8 = 3) : TL σ τ w (tx 27 ++ arL w) := by
  refine ⟨Nat.le_trans (dl_len 11 w (by omega)) (by omega), fun post k => c_desc 11 hw (by omega) (by omega) (fun i hi => ?_) (by show w / 32768 * 32768 + w / 256 % 8 * 256 = 33536; omega) k, fun post k => ?_⟩
  · match i, hi with
    | 0, _ => exact (by show 0 ≠ 1; omega : mskN 0 w ≠ bitN 0)
    | 1, _ => exact (by show 0 ≠ 1; omega : mskN 1 w ≠ bitN 1)
    | 2, _ => exact (by show w / 2048 * 2048 ≠ 0; omega : mskN 2 w ≠ bitN 2)
    | 3, _ => exact (by show w / 2048 * 2048 ≠ 2048; omega : mskN 3 w ≠ bitN 3)
    | 4, _ => exact (by show w / 2048 * 2048 ≠ 4096; omega : mskN 4 w ≠ bitN 4)
    | 5, _ => exact (by show w / 2048 * 2048 ≠ 6144; omega : mskN 5 w ≠ bitN 5)
    | 6, _ => exact (by show w / 8192 * 8192 ≠ 8192; omega : mskN 6 w ≠ bitN 6)
    | 7, _ => exact (by show w / 8192 * 8192 ≠ 16384; omega : mskN 7 w ≠ bitN 7)
    | 8, _ => exact (by show w / 32768 * 32768 + w / 256 % 8 * 256 ≠ 32768; omega : mskN 8 w ≠ bitN 8)
    | 9, _ => exact (by show w / 32768 * 32768 + w / 256 % 8 * 256 ≠ 33024; omega : mskN 9 w ≠ bitN 9)
    | 10, _ => exact (by show w / 32768 * 32768 + w / 256 % 8 * 256 ≠ 33280; omega : mskN 10 w ≠ bitN 10)
    | n + 11, h => exact absurd h (by omega)
  · simp (disch := omega) only [f_R_sayReckoning, f_R_functionName, nm, q_lit, q_add, q_sub, q_subN, q_n1, q_mul, q_div, q_nm, q_and, q_or, q_xor, q_shr, q_shl, q_cl, q_a1, q_a3, q_a7, q_a31, q_a63, q_a255, q_a15, q_a16, q_a17, q_a2, q_a4, q_a8, q_a1024, q_a65536, Nat.reduceMod, Nat.reducePow, Nat.reduceDiv, Nat.reduceMul, Nat.reduceAdd, Nat.reduceSub, Nat.reduceEqDiff, q_ltT, q_ltF, q_leT, q_leF, q_eqT, q_eqF, q_inT, q_bz0, q_bz1, b_T, b_F, true_and, and_true, if_true, if_false, h2]
    refine rw_name (tx 27) nt_27 (tx_N _ (by omega) (by omega)) (rw_0 τ) (by simp) (fun u1 g1 => ?_)
    rw [List.nil_append] at g1
    have := rw_ar (w := w) (post := fun u => post (u.1 28) u) g1 (by have := tx_len 27 (by omega); omega) hw k
    simp (disch := omega) only [nm, q_lit, q_add, q_sub, q_subN, q_n1, q_mul, q_div, q_nm, q_and, q_or, q_xor, q_shr, q_shl, q_cl, q_a1, q_a3, q_a7, q_a31, q_a63, q_a255, q_a15, q_a16, q_a17, q_a2, q_a4, q_a8, q_a1024, q_a65536, Nat.reduceMod, Nat.reducePow, Nat.reduceDiv, Nat.reduceMul, Nat.reduceAdd, Nat.reduceSub, Nat.reduceEqDiff, q_ltT, q_ltF, q_leT, q_leF, q_eqT, q_eqF, q_inT, q_bz0, q_bz1, b_T, b_F, true_and, and_true, if_true, if_false] at this
    exact this
theorem tl_12 {σ τ : SS} {w : Nat} (hw : w < 65536) (h1 : 32768 ≤ w) (h2 : w / 256 % 8 = 4) : TL σ τ w (tx 28 ++ arL w) := by
  refine ⟨Nat.le_trans (dl_len 12 w (by omega)) (by omega), fun post k => c_desc 12 hw (by omega) (by omega) (fun i hi => ?_) (by show w / 32768 * 32768 + w / 256 % 8 * 256 = 33792; omega) k, fun post k => ?_⟩
  · match i, hi with
    | 0, _ => exact (by show 0 ≠ 1; omega : mskN 0 w ≠ bitN 0)
    | 1, _ => exact (by show 0 ≠ 1; omega : mskN 1 w ≠ bitN 1)
    | 2, _ => exact (by show w / 2048 * 2048 ≠ 0; omega : mskN 2 w ≠ bitN 2)
    | 3, _ => exact (by show w / 2048 * 2048 ≠ 2048; omega : mskN 3 w ≠ bitN 3)
    | 4, _ => exact (by show w / 2048 * 2048 ≠ 4096; omega : mskN 4 w ≠ bitN 4)
    | 5, _ => exact (by show w / 2048 * 2048 ≠ 6144; omega : mskN 5 w ≠ bitN 5)
    | 6, _ => exact (by show w / 8192 * 8192 ≠ 8192; omega : mskN 6 w ≠ bitN 6)
    | 7, _ => exact (by show w / 8192 * 8192 ≠ 16384; omega : mskN 7 w ≠ bitN 7)
    | 8, _ => exact (by show w / 32768 * 32768 + w / 256 % 8 * 256 ≠ 32768; omega : mskN 8 w ≠ bitN 8)
    | 9, _ => exact (by show w / 32768 * 32768 + w / 256 % 8 * 256 ≠ 33024; omega : mskN 9 w ≠ bitN 9)
    | 10, _ => exact (by show w / 32768 * 32768 + w / 256 % 8 * 256 ≠ 33280; omega : mskN 10 w ≠ bitN 10)
    | 11, _ => exact (by show w / 32768 * 32768 + w / 256 % 8 * 256 ≠ 33536; omega : mskN 11 w ≠ bitN 11)
    | n + 12, h => exact absurd h (by omega)
  · simp (disch := omega) only [f_R_sayReckoning, f_R_functionName, nm, q_lit, q_add, q_sub, q_subN, q_n1, q_mul, q_div, q_nm, q_and, q_or, q_xor, q_shr, q_shl, q_cl, q_a1, q_a3, q_a7, q_a31, q_a63, q_a255, q_a15, q_a16, q_a17, q_a2, q_a4, q_a8, q_a1024, q_a65536, Nat.reduceMod, Nat.reducePow, Nat.reduceDiv, Nat.reduceMul, Nat.reduceAdd, Nat.reduceSub, Nat.reduceEqDiff, q_ltT, q_ltF, q_leT, q_leF, q_eqT, q_eqF, q_inT, q_bz0, q_bz1, b_T, b_F, true_and, and_true, if_true, if_false, h2]
    refine rw_name (tx 28) nt_28 (tx_N _ (by omega) (by omega)) (rw_0 τ) (by simp) (fun u1 g1 => ?_)
    rw [List.nil_append] at g1
    have := rw_ar (w := w) (post := fun u => post (u.1 28) u) g1 (by have := tx_len 28 (by omega); omega) hw k
    simp (disch := omega) only [nm, q_lit, q_add, q_sub, q_subN, q_n1, q_mul, q_div, q_nm, q_and, q_or, q_xor, q_shr, q_shl, q_cl, q_a1, q_a3, q_a7, q_a31, q_a63, q_a255, q_a15, q_a16, q_a17, q_a2, q_a4, q_a8, q_a1024, q_a65536, Nat.reduceMod, Nat.reducePow, Nat.reduceDiv, Nat.reduceMul, Nat.reduceAdd, Nat.reduceSub, Nat.reduceEqDiff, q_ltT, q_ltF, q_leT, q_leF, q_eqT, q_eqF, q_inT, q_bz0, q_bz1, b_T, b_F, true_and, and_true, if_true, if_false] at this
    exact this
theorem tl_13 {σ τ : SS} {w : Nat} (hw : w < 65536) (h1 : 32768 ≤ w) (h2 : w / 256 % 8 = 5) : TL σ τ w (tx 29 ++ arL w) := by
  refine ⟨Nat.le_trans (dl_len 13 w (by omega)) (by omega), fun post k => c_desc 13 hw (by omega) (by omega) (fun i hi => ?_) (by show w / 32768 * 32768 + w / 256 % 8 * 256 = 34048; omega) k, fun post k => ?_⟩
  · match i, hi with
    | 0, _ => exact (by show 0 ≠ 1; omega : mskN 0 w ≠ bitN 0)
    | 1, _ => exact (by show 0 ≠ 1; omega : mskN 1 w ≠ bitN 1)
    | 2, _ => exact (by show w / 2048 * 2048 ≠ 0; omega : mskN 2 w ≠ bitN 2)
    | 3, _ => exact (by show w / 2048 * 2048 ≠ 2048; omega : mskN 3 w ≠ bitN 3)
    | 4, _ => exact (by show w / 2048 * 2048 ≠ 4096; omega : mskN 4 w ≠ bitN 4)
    | 5, _ => exact (by show w / 2048 * 2048 ≠ 6144; omega : mskN 5 w ≠ bitN 5)
    | 6, _ => exact (by show w / 8192 * 8192 ≠ 8192; omega : mskN 6 w ≠ bitN 6)
    | 7, _ => exact (by show w / 8192 * 8192 ≠ 16384; omega : mskN 7 w ≠ bitN 7)
    | 8, _ => exact (by show w / 32768 * 32768 + w / 256 % 8 * 256 ≠ 32768; omega : mskN 8 w ≠ bitN 8)
    | 9, _ => exact (by show w / 32768 * 32768 + w / 256 % 8 * 256 ≠ 33024; omega : mskN 9 w ≠ bitN 9)
    | 10, _ => exact (by show w / 32768 * 32768 + w / 256 % 8 * 256 ≠ 33280; omega : mskN 10 w ≠ bitN 10)
    | 11, _ => exact (by show w / 32768 * 32768 + w / 256 % 8 * 256 ≠ 33536; omega : mskN 11 w ≠ bitN 11)
    | 12, _ => exact (by show w / 32768 * 32768 + w / 256 % 8 * 256 ≠ 33792; omega : mskN 12 w ≠ bitN 12)
    | n + 13, h => exact absurd h (by omega)
  · simp (disch := omega) only [f_R_sayReckoning, f_R_functionName, nm, q_lit, q_add, q_sub, q_subN, q_n1, q_mul, q_div, q_nm, q_and, q_or, q_xor, q_shr, q_shl, q_cl, q_a1, q_a3, q_a7, q_a31, q_a63, q_a255, q_a15, q_a16, q_a17, q_a2, q_a4, q_a8, q_a1024, q_a65536, Nat.reduceMod, Nat.reducePow, Nat.reduceDiv, Nat.reduceMul, Nat.reduceAdd, Nat.reduceSub, Nat.reduceEqDiff, q_ltT, q_ltF, q_leT, q_leF, q_eqT, q_eqF, q_inT, q_bz0, q_bz1, b_T, b_F, true_and, and_true, if_true, if_false, h2]
    refine rw_name (tx 29) nt_29 (tx_N _ (by omega) (by omega)) (rw_0 τ) (by simp) (fun u1 g1 => ?_)
    rw [List.nil_append] at g1
    have := rw_ar (w := w) (post := fun u => post (u.1 28) u) g1 (by have := tx_len 29 (by omega); omega) hw k
    simp (disch := omega) only [nm, q_lit, q_add, q_sub, q_subN, q_n1, q_mul, q_div, q_nm, q_and, q_or, q_xor, q_shr, q_shl, q_cl, q_a1, q_a3, q_a7, q_a31, q_a63, q_a255, q_a15, q_a16, q_a17, q_a2, q_a4, q_a8, q_a1024, q_a65536, Nat.reduceMod, Nat.reducePow, Nat.reduceDiv, Nat.reduceMul, Nat.reduceAdd, Nat.reduceSub, Nat.reduceEqDiff, q_ltT, q_ltF, q_leT, q_leF, q_eqT, q_eqF, q_inT, q_bz0, q_bz1, b_T, b_F, true_and, and_true, if_true, if_false] at this
    exact this
theorem tl_14 {σ τ : SS} {w : Nat} (hw : w < 65536) (h1 : 32768 ≤ w) (h2 : w / 256 % 8 = 6) : TL σ τ w (tx 30 ++ arL w) := by
  refine ⟨Nat.le_trans (dl_len 14 w (by omega)) (by omega), fun post k => c_desc 14 hw (by omega) (by omega) (fun i hi => ?_) (by show w / 32768 * 32768 + w / 256 % 8 * 256 = 34304; omega) k, fun post k => ?_⟩
  · match i, hi with
    | 0, _ => exact (by show 0 ≠ 1; omega : mskN 0 w ≠ bitN 0)
    | 1, _ => exact (by show 0 ≠ 1; omega : mskN 1 w ≠ bitN 1)
    | 2, _ => exact (by show w / 2048 * 2048 ≠ 0; omega : mskN 2 w ≠ bitN 2)
    | 3, _ => exact (by show w / 2048 * 2048 ≠ 2048; omega : mskN 3 w ≠ bitN 3)
    | 4, _ => exact (by show w / 2048 * 2048 ≠ 4096; omega : mskN 4 w ≠ bitN 4)
    | 5, _ => exact (by show w / 2048 * 2048 ≠ 6144; omega : mskN 5 w ≠ bitN 5)
    | 6, _ => exact (by show w / 8192 * 8192 ≠ 8192; omega : mskN 6 w ≠ bitN 6)
    | 7, _ => exact (by show w / 8192 * 8192 ≠ 16384; omega : mskN 7 w ≠ bitN 7)
    | 8, _ => exact (by show w / 32768 * 32768 + w / 256 % 8 * 256 ≠ 32768; omega : mskN 8 w ≠ bitN 8)
    | 9, _ => exact (by show w / 32768 * 32768 + w / 256 % 8 * 256 ≠ 33024; omega : mskN 9 w ≠ bitN 9)
    | 10, _ => exact (by show w / 32768 * 32768 + w / 256 % 8 * 256 ≠ 33280; omega : mskN 10 w ≠ bitN 10)
    | 11, _ => exact (by show w / 32768 * 32768 + w / 256 % 8 * 256 ≠ 33536; omega : mskN 11 w ≠ bitN 11)
    | 12, _ => exact (by show w / 32768 * 32768 + w / 256 % 8 * 256 ≠ 33792; omega : mskN 12 w ≠ bitN 12)
    | 13, _ => exact (by show w / 32768 * 32768 + w / 256 % 8 * 256 ≠ 34048; omega : mskN 13 w ≠ bitN 13)
    | n + 14, h => exact absurd h (by omega)
  · simp (disch := omega) only [f_R_sayReckoning, f_R_functionName, nm, q_lit, q_add, q_sub, q_subN, q_n1, q_mul, q_div, q_nm, q_and, q_or, q_xor, q_shr, q_shl, q_cl, q_a1, q_a3, q_a7, q_a31, q_a63, q_a255, q_a15, q_a16, q_a17, q_a2, q_a4, q_a8, q_a1024, q_a65536, Nat.reduceMod, Nat.reducePow, Nat.reduceDiv, Nat.reduceMul, Nat.reduceAdd, Nat.reduceSub, Nat.reduceEqDiff, q_ltT, q_ltF, q_leT, q_leF, q_eqT, q_eqF, q_inT, q_bz0, q_bz1, b_T, b_F, true_and, and_true, if_true, if_false, h2]
    refine rw_name (tx 30) nt_30 (tx_N _ (by omega) (by omega)) (rw_0 τ) (by simp) (fun u1 g1 => ?_)
    rw [List.nil_append] at g1
    have := rw_ar (w := w) (post := fun u => post (u.1 28) u) g1 (by have := tx_len 30 (by omega); omega) hw k
    simp (disch := omega) only [nm, q_lit, q_add, q_sub, q_subN, q_n1, q_mul, q_div, q_nm, q_and, q_or, q_xor, q_shr, q_shl, q_cl, q_a1, q_a3, q_a7, q_a31, q_a63, q_a255, q_a15, q_a16, q_a17, q_a2, q_a4, q_a8, q_a1024, q_a65536, Nat.reduceMod, Nat.reducePow, Nat.reduceDiv, Nat.reduceMul, Nat.reduceAdd, Nat.reduceSub, Nat.reduceEqDiff, q_ltT, q_ltF, q_leT, q_leF, q_eqT, q_eqF, q_inT, q_bz0, q_bz1, b_T, b_F, true_and, and_true, if_true, if_false] at this
    exact this
theorem tl_15 {σ τ : SS} {w : Nat} (hw : w < 65536) (h1 : 32768 ≤ w) (h2 : w / 256 % 8 = 7) : TL σ τ w (tx 31 ++ arL w) := by
  refine ⟨Nat.le_trans (dl_len 15 w (by omega)) (by omega), fun post k => c_desc 15 hw (by omega) (by omega) (fun i hi => ?_) (by show w / 32768 * 32768 + w / 256 % 8 * 256 = 34560; omega) k, fun post k => ?_⟩
  · match i, hi with
    | 0, _ => exact (by show 0 ≠ 1; omega : mskN 0 w ≠ bitN 0)
    | 1, _ => exact (by show 0 ≠ 1; omega : mskN 1 w ≠ bitN 1)
    | 2, _ => exact (by show w / 2048 * 2048 ≠ 0; omega : mskN 2 w ≠ bitN 2)
    | 3, _ => exact (by show w / 2048 * 2048 ≠ 2048; omega : mskN 3 w ≠ bitN 3)
    | 4, _ => exact (by show w / 2048 * 2048 ≠ 4096; omega : mskN 4 w ≠ bitN 4)
    | 5, _ => exact (by show w / 2048 * 2048 ≠ 6144; omega : mskN 5 w ≠ bitN 5)
    | 6, _ => exact (by show w / 8192 * 8192 ≠ 8192; omega : mskN 6 w ≠ bitN 6)
    | 7, _ => exact (by show w / 8192 * 8192 ≠ 16384; omega : mskN 7 w ≠ bitN 7)
    | 8, _ => exact (by show w / 32768 * 32768 + w / 256 % 8 * 256 ≠ 32768; omega : mskN 8 w ≠ bitN 8)
    | 9, _ => exact (by show w / 32768 * 32768 + w / 256 % 8 * 256 ≠ 33024; omega : mskN 9 w ≠ bitN 9)
    | 10, _ => exact (by show w / 32768 * 32768 + w / 256 % 8 * 256 ≠ 33280; omega : mskN 10 w ≠ bitN 10)
    | 11, _ => exact (by show w / 32768 * 32768 + w / 256 % 8 * 256 ≠ 33536; omega : mskN 11 w ≠ bitN 11)
    | 12, _ => exact (by show w / 32768 * 32768 + w / 256 % 8 * 256 ≠ 33792; omega : mskN 12 w ≠ bitN 12)
    | 13, _ => exact (by show w / 32768 * 32768 + w / 256 % 8 * 256 ≠ 34048; omega : mskN 13 w ≠ bitN 13)
    | 14, _ => exact (by show w / 32768 * 32768 + w / 256 % 8 * 256 ≠ 34304; omega : mskN 14 w ≠ bitN 14)
    | n + 15, h => exact absurd h (by omega)
  · simp (disch := omega) only [f_R_sayReckoning, f_R_functionName, nm, q_lit, q_add, q_sub, q_subN, q_n1, q_mul, q_div, q_nm, q_and, q_or, q_xor, q_shr, q_shl, q_cl, q_a1, q_a3, q_a7, q_a31, q_a63, q_a255, q_a15, q_a16, q_a17, q_a2, q_a4, q_a8, q_a1024, q_a65536, Nat.reduceMod, Nat.reducePow, Nat.reduceDiv, Nat.reduceMul, Nat.reduceAdd, Nat.reduceSub, Nat.reduceEqDiff, q_ltT, q_ltF, q_leT, q_leF, q_eqT, q_eqF, q_inT, q_bz0, q_bz1, b_T, b_F, true_and, and_true, if_true, if_false, h2]
    refine rw_name (tx 31) nt_31 (tx_N _ (by omega) (by omega)) (rw_0 τ) (by simp) (fun u1 g1 => ?_)
    rw [List.nil_append] at g1
    have := rw_ar (w := w) (post := fun u => post (u.1 28) u) g1 (by have := tx_len 31 (by omega); omega) hw k
    simp (disch := omega) only [nm, q_lit, q_add, q_sub, q_subN, q_n1, q_mul, q_div, q_nm, q_and, q_or, q_xor, q_shr, q_shl, q_cl, q_a1, q_a3, q_a7, q_a31, q_a63, q_a255, q_a15, q_a16, q_a17, q_a2, q_a4, q_a8, q_a1024, q_a65536, Nat.reduceMod, Nat.reducePow, Nat.reduceDiv, Nat.reduceMul, Nat.reduceAdd, Nat.reduceSub, Nat.reduceEqDiff, q_ltT, q_ltF, q_leT, q_leF, q_eqT, q_eqF, q_inT, q_bz0, q_bz1, b_T, b_F, true_and, and_true, if_true, if_false] at this
    exact this
theorem tl_2 {σ τ : SS} {w : Nat} (h1 : w / 2048 = 0) : TL σ τ w (tx 18 ++ ([32] ++ adrL w)) := by
  refine ⟨Nat.le_trans (dl_len 2 w (by omega)) (by omega), fun post k => c_desc 2 (by omega) (by omega) (by omega) (fun i hi => ?_) (by show w / 2048 * 2048 = 0; omega) k, fun post k => ?_⟩
  · match i, hi with
    | 0, _ => exact (by show 0 ≠ 1; omega : mskN 0 w ≠ bitN 0)
    | 1, _ => exact (by show 0 ≠ 1; omega : mskN 1 w ≠ bitN 1)
    | n + 2, h => exact absurd h (by omega)
  · have e1 : w / 2048 % 4 = 0 := by omega
    have e2 : w / 8192 = 0 := by omega
    have hx := tx_len 18 (by omega)
    simp (disch := omega) only [f_R_tell_202, nm, q_lit, q_add, q_sub, q_subN, q_n1, q_mul, q_div, q_nm, q_and, q_or, q_xor, q_shr, q_shl, q_cl, q_a1, q_a3, q_a7, q_a31, q_a63, q_a255, q_a15, q_a16, q_a17, q_a2, q_a4, q_a8, q_a1024, q_a65536, Nat.reduceMod, Nat.reducePow, Nat.reduceDiv, Nat.reduceMul, Nat.reduceAdd, Nat.reduceSub, Nat.reduceEqDiff, q_ltT, q_ltF, q_leT, q_leF, q_eqT, q_eqF, q_inT, q_bz0, q_bz1, b_T, b_F, true_and, and_true, if_true, if_false, e1, e2]
    refine rw_name (tx 18) nt_18 (tx_N _ (by omega) (by omega)) (rw_0 τ) (by simp) (fun u1 g1 => ?_)
    rw [List.nil_append] at g1
    refine rw_say g1 (by omega) (fun u2 g2 => ?_)
    refine rw_addr g2 (by simp only [List.length_append, List.length_cons, List.length_nil]; omega) (by omega) (fun u3 g3 => k u3 ?_)
    simpa only [List.append_assoc] using g3
theorem tl_3 {σ τ : SS} {w : Nat} (h1 : w / 2048 = 1) : TL σ τ w (tx 19 ++ ([32] ++ adrL w)) := by
  refine ⟨Nat.le_trans (dl_len 3 w (by omega)) (by omega), fun post k => c_desc 3 (by omega) (by omega) (by omega) (fun i hi => ?_) (by show w / 2048 * 2048 = 2048; omega) k, fun post k => ?_⟩
  · match i, hi with
    | 0, _ => exact (by show 0 ≠ 1; omega : mskN 0 w ≠ bitN 0)
    | 1, _ => exact (by show 0 ≠ 1; omega : mskN 1 w ≠ bitN 1)
    | 2, _ => exact (by show w / 2048 * 2048 ≠ 0; omega : mskN 2 w ≠ bitN 2)
    | n + 3, h => exact absurd h (by omega)
  · have e1 : w / 2048 % 4 = 1 := by omega
    have e2 : w / 8192 = 0 := by omega
    have hx := tx_len 19 (by omega)
    simp (disch := omega) only [f_R_tell_202, nm, q_lit, q_add, q_sub, q_subN, q_n1, q_mul, q_div, q_nm, q_and, q_or, q_xor, q_shr, q_shl, q_cl, q_a1, q_a3, q_a7, q_a31, q_a63, q_a255, q_a15, q_a16, q_a17, q_a2, q_a4, q_a8, q_a1024, q_a65536, Nat.reduceMod, Nat.reducePow, Nat.reduceDiv, Nat.reduceMul, Nat.reduceAdd, Nat.reduceSub, Nat.reduceEqDiff, q_ltT, q_ltF, q_leT, q_leF, q_eqT, q_eqF, q_inT, q_bz0, q_bz1, b_T, b_F, true_and, and_true, if_true, if_false, e1, e2]
    refine rw_name (tx 19) nt_19 (tx_N _ (by omega) (by omega)) (rw_0 τ) (by simp) (fun u1 g1 => ?_)
    rw [List.nil_append] at g1
    refine rw_say g1 (by omega) (fun u2 g2 => ?_)
    refine rw_addr g2 (by simp only [List.length_append, List.length_cons, List.length_nil]; omega) (by omega) (fun u3 g3 => k u3 ?_)
    simpa only [List.append_assoc] using g3
theorem tl_4 {σ τ : SS} {w : Nat} (h1 : w / 2048 = 2) : TL σ τ w (tx 20 ++ ([32] ++ adrL w)) := by
  refine ⟨Nat.le_trans (dl_len 4 w (by omega)) (by omega), fun post k => c_desc 4 (by omega) (by omega) (by omega) (fun i hi => ?_) (by show w / 2048 * 2048 = 4096; omega) k, fun post k => ?_⟩
  · match i, hi with
    | 0, _ => exact (by show 0 ≠ 1; omega : mskN 0 w ≠ bitN 0)
    | 1, _ => exact (by show 0 ≠ 1; omega : mskN 1 w ≠ bitN 1)
    | 2, _ => exact (by show w / 2048 * 2048 ≠ 0; omega : mskN 2 w ≠ bitN 2)
    | 3, _ => exact (by show w / 2048 * 2048 ≠ 2048; omega : mskN 3 w ≠ bitN 3)
    | n + 4, h => exact absurd h (by omega)
  · have e1 : w / 2048 % 4 = 2 := by omega
    have e2 : w / 8192 = 0 := by omega
    have hx := tx_len 20 (by omega)
    simp (disch := omega) only [f_R_tell_202, nm, q_lit, q_add, q_sub, q_subN, q_n1, q_mul, q_div, q_nm, q_and, q_or, q_xor, q_shr, q_shl, q_cl, q_a1, q_a3, q_a7, q_a31, q_a63, q_a255, q_a15, q_a16, q_a17, q_a2, q_a4, q_a8, q_a1024, q_a65536, Nat.reduceMod, Nat.reducePow, Nat.reduceDiv, Nat.reduceMul, Nat.reduceAdd, Nat.reduceSub, Nat.reduceEqDiff, q_ltT, q_ltF, q_leT, q_leF, q_eqT, q_eqF, q_inT, q_bz0, q_bz1, b_T, b_F, true_and, and_true, if_true, if_false, e1, e2]
    refine rw_name (tx 20) nt_20 (tx_N _ (by omega) (by omega)) (rw_0 τ) (by simp) (fun u1 g1 => ?_)
    rw [List.nil_append] at g1
    refine rw_say g1 (by omega) (fun u2 g2 => ?_)
    refine rw_addr g2 (by simp only [List.length_append, List.length_cons, List.length_nil]; omega) (by omega) (fun u3 g3 => k u3 ?_)
    simpa only [List.append_assoc] using g3
theorem tl_5 {σ τ : SS} {w : Nat} (h1 : w / 2048 = 3) : TL σ τ w (tx 21 ++ ([32] ++ adrL w)) := by
  refine ⟨Nat.le_trans (dl_len 5 w (by omega)) (by omega), fun post k => c_desc 5 (by omega) (by omega) (by omega) (fun i hi => ?_) (by show w / 2048 * 2048 = 6144; omega) k, fun post k => ?_⟩
  · match i, hi with
    | 0, _ => exact (by show 0 ≠ 1; omega : mskN 0 w ≠ bitN 0)
    | 1, _ => exact (by show 0 ≠ 1; omega : mskN 1 w ≠ bitN 1)
    | 2, _ => exact (by show w / 2048 * 2048 ≠ 0; omega : mskN 2 w ≠ bitN 2)
    | 3, _ => exact (by show w / 2048 * 2048 ≠ 2048; omega : mskN 3 w ≠ bitN 3)
    | 4, _ => exact (by show w / 2048 * 2048 ≠ 4096; omega : mskN 4 w ≠ bitN 4)
    | n + 5, h => exact absurd h (by omega)
  · have e1 : w / 2048 % 4 = 3 := by omega
    have e2 : w / 8192 = 0 := by omega
    have hx := tx_len 21 (by omega)
    simp (disch := omega) only [f_R_tell_202, nm, q_lit, q_add, q_sub, q_subN, q_n1, q_mul, q_div, q_nm, q_and, q_or, q_xor, q_shr, q_shl, q_cl, q_a1, q_a3, q_a7, q_a31, q_a63, q_a255, q_a15, q_a16, q_a17, q_a2, q_a4, q_a8, q_a1024, q_a65536, Nat.reduceMod, Nat.reducePow, Nat.reduceDiv, Nat.reduceMul, Nat.reduceAdd, Nat.reduceSub, Nat.reduceEqDiff, q_ltT, q_ltF, q_leT, q_leF, q_eqT, q_eqF, q_inT, q_bz0, q_bz1, b_T, b_F, true_and, and_true, if_true, if_false, e1, e2]
    refine rw_name (tx 21) nt_21 (tx_N _ (by omega) (by omega)) (rw_0 τ) (by simp) (fun u1 g1 => ?_)
    rw [List.nil_append] at g1
    refine rw_say g1 (by omega) (fun u2 g2 => ?_)
    refine rw_addr g2 (by simp only [List.length_append, List.length_cons, List.length_nil]; omega) (by omega) (fun u3 g3 => k u3 ?_)
    simpa only [List.append_assoc] using g3
theorem tl_6 {σ τ : SS} {w : Nat} (h1 : w / 8192 = 1) : TL σ τ w (tx 22 ++ ([32] ++ (oct (w / 2048 % 4) ++ ([44] ++ adrL w)))) := by
  refine ⟨Nat.le_trans (dl_len 6 w (by omega)) (by omega), fun post k => c_desc 6 (by omega) (by omega) (by omega) (fun i hi => ?_) (by show w / 8192 * 8192 = 8192; omega) k, fun post k => ?_⟩
  · match i, hi with
    | 0, _ => exact (by show 0 ≠ 1; omega : mskN 0 w ≠ bitN 0)
    | 1, _ => exact (by show 0 ≠ 1; omega : mskN 1 w ≠ bitN 1)
    | 2, _ => exact (by show w / 2048 * 2048 ≠ 0; omega : mskN 2 w ≠ bitN 2)
    | 3, _ => exact (by show w / 2048 * 2048 ≠ 2048; omega : mskN 3 w ≠ bitN 3)
    | 4, _ => exact (by show w / 2048 * 2048 ≠ 4096; omega : mskN 4 w ≠ bitN 4)
    | 5, _ => exact (by show w / 2048 * 2048 ≠ 6144; omega : mskN 5 w ≠ bitN 5)
    | n + 6, h => exact absurd h (by omega)
  · have hx := tx_len 22 (by omega)
    have ho := oct_len (w / 2048 % 4)
    simp (disch := omega) only [f_R_tell_138, nm, q_lit, q_add, q_sub, q_subN, q_n1, q_mul, q_div, q_nm, q_and, q_or, q_xor, q_shr, q_shl, q_cl, q_a1, q_a3, q_a7, q_a31, q_a63, q_a255, q_a15, q_a16, q_a17, q_a2, q_a4, q_a8, q_a1024, q_a65536, Nat.reduceMod, Nat.reducePow, Nat.reduceDiv, Nat.reduceMul, Nat.reduceAdd, Nat.reduceSub, Nat.reduceEqDiff, q_ltT, q_ltF, q_leT, q_leF, q_eqT, q_eqF, q_inT, q_bz0, q_bz1, b_T, b_F, true_and, and_true, if_true, if_false, h1]
    refine rw_name (tx 22) nt_22 (tx_N _ (by omega) (by omega)) (rw_0 τ) (by simp) (fun u1 g1 => ?_)
    rw [List.nil_append] at g1
    refine rw_say g1 (by omega) (fun u2 g2 => ?_)
    refine rw_oct g2 (by simp only [List.length_append, List.length_cons, List.length_nil]; omega) (by omega) (fun u3 g3 => ?_)
    refine rw_say g3 (by simp only [List.length_append, List.length_cons, List.length_nil]; omega) (fun u4 g4 => ?_)
    refine rw_addr g4 (by simp only [List.length_append, List.length_cons, List.length_nil]; omega) (by omega) (fun u5 g5 => k u5 ?_)
    simpa only [List.append_assoc] using g5
theorem tl_7 {σ τ : SS} {w : Nat} (h1 : w / 8192 = 2) : TL σ τ w (tx 23 ++ ([32] ++ (oct (w / 2048 % 4) ++ ([44] ++ adrL w)))) := by
  refine ⟨Nat.le_trans (dl_len 7 w (by omega)) (by omega), fun post k => c_desc 7 (by omega) (by omega) (by omega) (fun i hi => ?_) (by show w / 8192 * 8192 = 16384; omega) k, fun post k => ?_⟩
  · match i, hi with
    | 0, _ => exact (by show 0 ≠ 1; omega : mskN 0 w ≠ bitN 0)
    | 1, _ => exact (by show 0 ≠ 1; omega : mskN 1 w ≠ bitN 1)
    | 2, _ => exact (by show w / 2048 * 2048 ≠ 0; omega : mskN 2 w ≠ bitN 2)
    | 3, _ => exact (by show w / 2048 * 2048 ≠ 2048; omega : mskN 3 w ≠ bitN 3)
    | 4, _ => exact (by show w / 2048 * 2048 ≠ 4096; omega : mskN 4 w ≠ bitN 4)
    | 5, _ => exact (by show w / 2048 * 2048 ≠ 6144; omega : mskN 5 w ≠ bitN 5)
    | 6, _ => exact (by show w / 8192 * 8192 ≠ 8192; omega : mskN 6 w ≠ bitN 6)
    | n + 7, h => exact absurd h (by omega)
  · have hx := tx_len 23 (by omega)
    have ho := oct_len (w / 2048 % 4)
    simp (disch := omega) only [f_R_tell_138, nm, q_lit, q_add, q_sub, q_subN, q_n1, q_mul, q_div, q_nm, q_and, q_or, q_xor, q_shr, q_shl, q_cl, q_a1, q_a3, q_a7, q_a31, q_a63, q_a255, q_a15, q_a16, q_a17, q_a2, q_a4, q_a8, q_a1024, q_a65536, Nat.reduceMod, Nat.reducePow, Nat.reduceDiv, Nat.reduceMul, Nat.reduceAdd, Nat.reduceSub, Nat.reduceEqDiff, q_ltT, q_ltF, q_leT, q_leF, q_eqT, q_eqF, q_inT, q_bz0, q_bz1, b_T, b_F, true_and, and_true, if_true, if_false, h1]
    refine rw_name (tx 23) nt_23 (tx_N _ (by omega) (by omega)) (rw_0 τ) (by simp) (fun u1 g1 => ?_)
    rw [List.nil_append] at g1
    refine rw_say g1 (by omega) (fun u2 g2 => ?_)
    refine rw_oct g2 (by simp only [List.length_append, List.length_cons, List.length_nil]; omega) (by omega) (fun u3 g3 => ?_)
    refine rw_say g3 (by simp only [List.length_append, List.length_cons, List.length_nil]; omega) (fun u4 g4 => ?_)
    refine rw_addr g4 (by simp only [List.length_append, List.length_cons, List.length_nil]; omega) (by omega) (fun u5 g5 => k u5 ?_)
    simpa only [List.append_assoc] using g5
