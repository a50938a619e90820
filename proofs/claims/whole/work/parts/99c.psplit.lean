/-! the pure side: the class's items -/
def itC (t : Tk) : Nat := if t.1 = 2 then nameC t.2.2 + 2 else if t.1 = 3 then t.2.1 * 65536 + 3 else t.1
def fl : List (List Tk) → List Nat
  | [] => []
  | l :: r => l.map itC ++ (10 :: fl r)
def TxtL (T : Nat → Nat) (len : Nat) : Nat → List (List Tk) → Prop
  | _, [] => False
  | s, l :: rest => ∃ en e, s ≤ e ∧ e ≤ en ∧ en ≤ len ∧ (∀ i, s ≤ i → i < en → T i ≠ 10) ∧ (en = len ∨ T en = 10) ∧ (∀ i, s ≤ i → i < e → T i ≠ 59) ∧ (e = en ∨ T e = 59) ∧ LexL T e s l ∧ ((en = len ∧ rest = []) ∨ (en < len ∧ TxtL T len (en + 1) rest))
def CTx (σ : SS) (T : Nat → Nat) (len : Nat) : Prop := len ≤ 6000 ∧ σ.1 34 = nI len ∧ ∀ i, i < len → T i < 256 ∧ σ.2.1 12 i = nI (T i)
def FrS (σ u : SS) : Prop := (∀ k, k ≠ 35 → k ≠ 36 → u.1 k = σ.1 k) ∧ u.2.1 = σ.2.1 ∧ u.2.2.1 = σ.2.2.1 ∧ ∀ k, k ≠ 13 → u.2.2.2 k = σ.2.2.2 k
theorem FrS.refl (σ : SS) : FrS σ σ := ⟨fun _ _ _ => rfl, rfl, rfl, fun _ _ => rfl⟩
theorem FrS.trans {a b c : SS} (h : FrS a b) (g : FrS b c) : FrS a c := ⟨fun k h1 h2 => (g.1 k h1 h2).trans (h.1 k h1 h2), g.2.1.trans h.2.1, g.2.2.1.trans h.2.2.1, fun k h1 => (g.2.2.2 k h1).trans (h.2.2.2 k h1)⟩
theorem FrS.sI {a b : SS} (h : FrS a b) {k : Nat} (hk : k = 35 ∨ k = 36) (v : Int32) : FrS a (sI b k v) := ⟨fun j h1 h2 => by rw [sI_1, if_neg (by omega)]; exact h.1 j h1 h2, h.2.1, h.2.2⟩
theorem FrS.sB {a b : SS} (h : FrS a b) (i : Nat) (v : Int64) : FrS a (sB b 13 i v) := ⟨h.1, h.2.1, h.2.2.1, fun k hk => by rw [sB_4, if_neg hk]; exact h.2.2.2 k hk⟩
theorem CTx.fr {σ u : SS} {T : Nat → Nat} {len : Nat} (h : CTx σ T len) (f : FrS σ u) : CTx u T len := ⟨h.1, by rw [f.1 34 (by omega) (by omega)]; exact h.2.1, by rw [f.2.1]; exact h.2.2⟩
theorem c_goes {σ : SS} {c : Nat} {post : Int32 → SS → Prop} (hc : c < 256) (h1 : isL c → post (nI 1) σ) (h0 : ¬ isL c → post (nI 0) σ) : f_I_goesOn post σ (nI c) := by
  unfold isL at h1 h0
  by_cases c1 : c < 65
  · by_cases c2 : c = 46
    · simp (disch := omega) only [f_I_goesOn, f_I_goesOn_12, f_I_isDigit, nm, q_lit, q_add, q_sub, q_subN, q_n1, q_mul, q_div, q_nm, q_and, q_or, q_xor, q_shr, q_shl, q_cl, q_a1, q_a3, q_a7, q_a31, q_a63, q_a255, q_a15, q_a16, q_a17, q_a2, q_a4, q_a8, q_a1024, q_a65536, Nat.reduceMod, Nat.reducePow, Nat.reduceDiv, Nat.reduceMul, Nat.reduceAdd, Nat.reduceSub, Nat.reduceEqDiff, q_ltT, q_ltF, q_leT, q_leF, q_eqT, q_eqF, q_inT, q_bz0, q_bz1, b_T, b_F, true_and, and_true, if_true, if_false]; exact h1 (by omega)
    · by_cases c3 : c < 48
      · simp (disch := omega) only [f_I_goesOn, f_I_goesOn_12, f_I_isDigit, nm, q_lit, q_add, q_sub, q_subN, q_n1, q_mul, q_div, q_nm, q_and, q_or, q_xor, q_shr, q_shl, q_cl, q_a1, q_a3, q_a7, q_a31, q_a63, q_a255, q_a15, q_a16, q_a17, q_a2, q_a4, q_a8, q_a1024, q_a65536, Nat.reduceMod, Nat.reducePow, Nat.reduceDiv, Nat.reduceMul, Nat.reduceAdd, Nat.reduceSub, Nat.reduceEqDiff, q_ltT, q_ltF, q_leT, q_leF, q_eqT, q_eqF, q_inT, q_bz0, q_bz1, b_T, b_F, true_and, and_true, if_true, if_false]; exact h0 (by omega)
      · by_cases c4 : c ≤ 57
        · simp (disch := omega) only [f_I_goesOn, f_I_goesOn_12, f_I_isDigit, nm, q_lit, q_add, q_sub, q_subN, q_n1, q_mul, q_div, q_nm, q_and, q_or, q_xor, q_shr, q_shl, q_cl, q_a1, q_a3, q_a7, q_a31, q_a63, q_a255, q_a15, q_a16, q_a17, q_a2, q_a4, q_a8, q_a1024, q_a65536, Nat.reduceMod, Nat.reducePow, Nat.reduceDiv, Nat.reduceMul, Nat.reduceAdd, Nat.reduceSub, Nat.reduceEqDiff, q_ltT, q_ltF, q_leT, q_leF, q_eqT, q_eqF, q_inT, q_bz0, q_bz1, b_T, b_F, true_and, and_true, if_true, if_false]; exact h1 (by omega)
        · simp (disch := omega) only [f_I_goesOn, f_I_goesOn_12, f_I_isDigit, nm, q_lit, q_add, q_sub, q_subN, q_n1, q_mul, q_div, q_nm, q_and, q_or, q_xor, q_shr, q_shl, q_cl, q_a1, q_a3, q_a7, q_a31, q_a63, q_a255, q_a15, q_a16, q_a17, q_a2, q_a4, q_a8, q_a1024, q_a65536, Nat.reduceMod, Nat.reducePow, Nat.reduceDiv, Nat.reduceMul, Nat.reduceAdd, Nat.reduceSub, Nat.reduceEqDiff, q_ltT, q_ltF, q_leT, q_leF, q_eqT, q_eqF, q_inT, q_bz0, q_bz1, b_T, b_F, true_and, and_true, if_true, if_false]; exact h0 (by omega)
  · by_cases c2 : c ≤ 90
    · simp (disch := omega) only [f_I_goesOn, f_I_goesOn_12, f_I_isDigit, nm, q_lit, q_add, q_sub, q_subN, q_n1, q_mul, q_div, q_nm, q_and, q_or, q_xor, q_shr, q_shl, q_cl, q_a1, q_a3, q_a7, q_a31, q_a63, q_a255, q_a15, q_a16, q_a17, q_a2, q_a4, q_a8, q_a1024, q_a65536, Nat.reduceMod, Nat.reducePow, Nat.reduceDiv, Nat.reduceMul, Nat.reduceAdd, Nat.reduceSub, Nat.reduceEqDiff, q_ltT, q_ltF, q_leT, q_leF, q_eqT, q_eqF, q_inT, q_bz0, q_bz1, b_T, b_F, true_and, and_true, if_true, if_false]; exact h1 (by omega)
    · simp (disch := omega) only [f_I_goesOn, f_I_goesOn_12, f_I_isDigit, nm, q_lit, q_add, q_sub, q_subN, q_n1, q_mul, q_div, q_nm, q_and, q_or, q_xor, q_shr, q_shl, q_cl, q_a1, q_a3, q_a7, q_a31, q_a63, q_a255, q_a15, q_a16, q_a17, q_a2, q_a4, q_a8, q_a1024, q_a65536, Nat.reduceMod, Nat.reducePow, Nat.reduceDiv, Nat.reduceMul, Nat.reduceAdd, Nat.reduceSub, Nat.reduceEqDiff, q_ltT, q_ltF, q_leT, q_leF, q_eqT, q_eqF, q_inT, q_bz0, q_bz1, b_T, b_F, true_and, and_true, if_true, if_false]; exact h0 (by omega)
theorem c_isD {σ : SS} {c : Nat} {post : Int32 → SS → Prop} (hc : c < 256) (h1 : 48 ≤ c ∧ c ≤ 57 → post (nI 1) σ) (h0 : ¬ (48 ≤ c ∧ c ≤ 57) → post (nI 0) σ) : f_I_isDigit post σ (nI c) := by
  by_cases c1 : c < 48
  · simp (disch := omega) only [f_I_isDigit, nm, q_lit, q_add, q_sub, q_subN, q_n1, q_mul, q_div, q_nm, q_and, q_or, q_xor, q_shr, q_shl, q_cl, q_a1, q_a3, q_a7, q_a31, q_a63, q_a255, q_a15, q_a16, q_a17, q_a2, q_a4, q_a8, q_a1024, q_a65536, Nat.reduceMod, Nat.reducePow, Nat.reduceDiv, Nat.reduceMul, Nat.reduceAdd, Nat.reduceSub, Nat.reduceEqDiff, q_ltT, q_ltF, q_leT, q_leF, q_eqT, q_eqF, q_inT, q_bz0, q_bz1, b_T, b_F, true_and, and_true, if_true, if_false]; exact h0 (by omega)
  · by_cases c2 : c ≤ 57
    · simp (disch := omega) only [f_I_isDigit, nm, q_lit, q_add, q_sub, q_subN, q_n1, q_mul, q_div, q_nm, q_and, q_or, q_xor, q_shr, q_shl, q_cl, q_a1, q_a3, q_a7, q_a31, q_a63, q_a255, q_a15, q_a16, q_a17, q_a2, q_a4, q_a8, q_a1024, q_a65536, Nat.reduceMod, Nat.reducePow, Nat.reduceDiv, Nat.reduceMul, Nat.reduceAdd, Nat.reduceSub, Nat.reduceEqDiff, q_ltT, q_ltF, q_leT, q_leF, q_eqT, q_eqF, q_inT, q_bz0, q_bz1, b_T, b_F, true_and, and_true, if_true, if_false]; exact h1 (by omega)
    · simp (disch := omega) only [f_I_isDigit, nm, q_lit, q_add, q_sub, q_subN, q_n1, q_mul, q_div, q_nm, q_and, q_or, q_xor, q_shr, q_shl, q_cl, q_a1, q_a3, q_a7, q_a31, q_a63, q_a255, q_a15, q_a16, q_a17, q_a2, q_a4, q_a8, q_a1024, q_a65536, Nat.reduceMod, Nat.reducePow, Nat.reduceDiv, Nat.reduceMul, Nat.reduceAdd, Nat.reduceSub, Nat.reduceEqDiff, q_ltT, q_ltF, q_leT, q_leF, q_eqT, q_eqF, q_inT, q_bz0, q_bz1, b_T, b_F, true_and, and_true, if_true, if_false]; exact h0 (by omega)
/-- an item is added -/
def Add (σ : SS) (c x : Nat) (u : SS) : Prop := FrS σ u ∧ u.1 36 = σ.1 36 ∧ u.1 35 = nI (c + 1) ∧ u.2.2.2 13 c = jI x ∧ ∀ i, i ≠ c → u.2.2.2 13 i = σ.2.2.2 13 i
theorem c_add {σ : SS} {c x : Nat} {post : SS → Prop} (hc : c < 6001) (hv : σ.1 35 = nI c) (k : ∀ u, Add σ c x u → post u) : f_I_add post σ (jI x) := by
  simp (disch := omega) only [f_I_add, nm, q_lit, q_add, q_sub, q_subN, q_n1, q_mul, q_div, q_nm, q_and, q_or, q_xor, q_shr, q_shl, q_cl, q_a1, q_a3, q_a7, q_a31, q_a63, q_a255, q_a15, q_a16, q_a17, q_a2, q_a4, q_a8, q_a1024, q_a65536, Nat.reduceMod, Nat.reducePow, Nat.reduceDiv, Nat.reduceMul, Nat.reduceAdd, Nat.reduceSub, Nat.reduceEqDiff, q_ltT, q_ltF, q_leT, q_leF, q_eqT, q_eqF, q_inT, q_bz0, q_bz1, b_T, b_F, true_and, and_true, if_true, if_false, sB_1, hv]
  refine k _ ⟨((FrS.refl _).sB _ _).sI (by omega) _, rfl, rfl, ?_, fun i hi => ?_⟩
  · show vp_updL (σ.2.2.2 13) c (jI x) c = jI x
    simp [vp_updL]
  · show vp_updL (σ.2.2.2 13) c (jI x) i = σ.2.2.2 13 i
    simp [vp_updL, hi]
theorem kS0 : kS_byt 0 0 = nI 43 ∧ kS_byt 0 1 = nI 45 ∧ kS_byt 0 2 = nI 44 ∧ kS_byt 0 3 = nI 64 ∧ kS_byt 0 4 = nI 35 ∧ kS_byt 0 5 = nI 58 ∧ Int32.ofNat (kS_len 0) = nI 6 ∧ kS_len 0 = 6 := by decide
theorem c_index {σ : SS} {c : Nat} {post : Int32 → SS → Prop} (hc : c < 256) (h1 : sgn c → ∀ r, r < 6 → post (nI r) σ) (h0 : ¬ sgn c → post (-nI 1) σ) : f_JStr_indexOf1 post σ 0 (nI c) := by
  obtain ⟨k0, k1, k2, k3, k4, k5, k6, k7⟩ := kS0
  have ne : ∀ x : Nat, x < 128 → c ≠ x → ¬ nI x = by8 c := by
    intro x hx hn
    rcases by_e hc with ⟨g, ee⟩ | ⟨g, ee⟩
    · rw [ee, q_eq (by omega) (by omega)]; omega
    · rw [ee, q_eq (by omega) (by omega)]; omega
  have go : f_JLat_indexOfChar4 (fun r_7 σ_6 => post r_7 σ_6) σ 0 (nI c) (nI 0) (nI 6) := by
    refine ⟨7, ?_⟩
    show f_JLat_indexOfChar4_7 _ 7 σ 0 (nI 6) (by8 c) (nI 0)
    unfold sgn at h1 h0
    by_cases c0 : c = 43
    · subst c0
      simp (disch := omega) only [f_JLat_indexOfChar4_7, nm, q_lit, q_add, q_sub, q_subN, q_n1, q_mul, q_div, q_nm, q_and, q_or, q_xor, q_shr, q_shl, q_cl, q_a1, q_a3, q_a7, q_a31, q_a63, q_a255, q_a15, q_a16, q_a17, q_a2, q_a4, q_a8, q_a1024, q_a65536, Nat.reduceMod, Nat.reducePow, Nat.reduceDiv, Nat.reduceMul, Nat.reduceAdd, Nat.reduceSub, Nat.reduceEqDiff, q_ltT, q_ltF, q_leT, q_leF, q_eqT, q_eqF, q_inT, q_bz0, q_bz1, b_T, b_F, true_and, and_true, if_true, if_false, Nat.reduceLT, k0, k7, by_lo 43 (by omega)]; exact h1 (by omega) 0 (by omega)
    by_cases c1 : c = 45
    · subst c1
      simp (disch := omega) only [f_JLat_indexOfChar4_7, nm, q_lit, q_add, q_sub, q_subN, q_n1, q_mul, q_div, q_nm, q_and, q_or, q_xor, q_shr, q_shl, q_cl, q_a1, q_a3, q_a7, q_a31, q_a63, q_a255, q_a15, q_a16, q_a17, q_a2, q_a4, q_a8, q_a1024, q_a65536, Nat.reduceMod, Nat.reducePow, Nat.reduceDiv, Nat.reduceMul, Nat.reduceAdd, Nat.reduceSub, Nat.reduceEqDiff, q_ltT, q_ltF, q_leT, q_leF, q_eqT, q_eqF, q_inT, q_bz0, q_bz1, b_T, b_F, true_and, and_true, if_true, if_false, Nat.reduceLT, k0, k1, k7, by_lo 45 (by omega)]; exact h1 (by omega) 1 (by omega)
    by_cases c2 : c = 44
    · subst c2
      simp (disch := omega) only [f_JLat_indexOfChar4_7, nm, q_lit, q_add, q_sub, q_subN, q_n1, q_mul, q_div, q_nm, q_and, q_or, q_xor, q_shr, q_shl, q_cl, q_a1, q_a3, q_a7, q_a31, q_a63, q_a255, q_a15, q_a16, q_a17, q_a2, q_a4, q_a8, q_a1024, q_a65536, Nat.reduceMod, Nat.reducePow, Nat.reduceDiv, Nat.reduceMul, Nat.reduceAdd, Nat.reduceSub, Nat.reduceEqDiff, q_ltT, q_ltF, q_leT, q_leF, q_eqT, q_eqF, q_inT, q_bz0, q_bz1, b_T, b_F, true_and, and_true, if_true, if_false, Nat.reduceLT, k0, k1, k2, k7, by_lo 44 (by omega)]; exact h1 (by omega) 2 (by omega)
    by_cases c3 : c = 64
    · subst c3
      simp (disch := omega) only [f_JLat_indexOfChar4_7, nm, q_lit, q_add, q_sub, q_subN, q_n1, q_mul, q_div, q_nm, q_and, q_or, q_xor, q_shr, q_shl, q_cl, q_a1, q_a3, q_a7, q_a31, q_a63, q_a255, q_a15, q_a16, q_a17, q_a2, q_a4, q_a8, q_a1024, q_a65536, Nat.reduceMod, Nat.reducePow, Nat.reduceDiv, Nat.reduceMul, Nat.reduceAdd, Nat.reduceSub, Nat.reduceEqDiff, q_ltT, q_ltF, q_leT, q_leF, q_eqT, q_eqF, q_inT, q_bz0, q_bz1, b_T, b_F, true_and, and_true, if_true, if_false, Nat.reduceLT, k0, k1, k2, k3, k7, by_lo 64 (by omega)]; exact h1 (by omega) 3 (by omega)
    by_cases c4 : c = 35
    · subst c4
      simp (disch := omega) only [f_JLat_indexOfChar4_7, nm, q_lit, q_add, q_sub, q_subN, q_n1, q_mul, q_div, q_nm, q_and, q_or, q_xor, q_shr, q_shl, q_cl, q_a1, q_a3, q_a7, q_a31, q_a63, q_a255, q_a15, q_a16, q_a17, q_a2, q_a4, q_a8, q_a1024, q_a65536, Nat.reduceMod, Nat.reducePow, Nat.reduceDiv, Nat.reduceMul, Nat.reduceAdd, Nat.reduceSub, Nat.reduceEqDiff, q_ltT, q_ltF, q_leT, q_leF, q_eqT, q_eqF, q_inT, q_bz0, q_bz1, b_T, b_F, true_and, and_true, if_true, if_false, Nat.reduceLT, k0, k1, k2, k3, k4, k7, by_lo 35 (by omega)]; exact h1 (by omega) 4 (by omega)
    by_cases c5 : c = 58
    · subst c5
      simp (disch := omega) only [f_JLat_indexOfChar4_7, nm, q_lit, q_add, q_sub, q_subN, q_n1, q_mul, q_div, q_nm, q_and, q_or, q_xor, q_shr, q_shl, q_cl, q_a1, q_a3, q_a7, q_a31, q_a63, q_a255, q_a15, q_a16, q_a17, q_a2, q_a4, q_a8, q_a1024, q_a65536, Nat.reduceMod, Nat.reducePow, Nat.reduceDiv, Nat.reduceMul, Nat.reduceAdd, Nat.reduceSub, Nat.reduceEqDiff, q_ltT, q_ltF, q_leT, q_leF, q_eqT, q_eqF, q_inT, q_bz0, q_bz1, b_T, b_F, true_and, and_true, if_true, if_false, Nat.reduceLT, k0, k1, k2, k3, k4, k5, k7, by_lo 58 (by omega)]; exact h1 (by omega) 5 (by omega)
    have hh := h0 (by omega)
    rw [q_n1] at hh
    simp (disch := omega) only [f_JLat_indexOfChar4_7, nm, q_lit, q_add, q_sub, q_subN, q_n1, q_mul, q_div, q_nm, q_and, q_or, q_xor, q_shr, q_shl, q_cl, q_a1, q_a3, q_a7, q_a31, q_a63, q_a255, q_a15, q_a16, q_a17, q_a2, q_a4, q_a8, q_a1024, q_a65536, Nat.reduceMod, Nat.reducePow, Nat.reduceDiv, Nat.reduceMul, Nat.reduceAdd, Nat.reduceSub, Nat.reduceEqDiff, q_ltT, q_ltF, q_leT, q_leF, q_eqT, q_eqF, q_inT, q_bz0, q_bz1, b_T, b_F, true_and, and_true, if_true, if_false, Nat.reduceLT, k0, k1, k2, k3, k4, k5, k7, ne 43 (by omega) c0, ne 45 (by omega) c1, ne 44 (by omega) c2, ne 64 (by omega) c3, ne 35 (by omega) c4, ne 58 (by omega) c5]
    exact hh
  simp (disch := omega) only [f_JStr_indexOf1, f_JStr_indexOf2, f_JStr_isLatin10, f_JStr_length0, f_JStr_coder0, f_JLat_indexOf4, f_JLat_canEncode1, nm, q_lit, q_add, q_sub, q_subN, q_n1, q_mul, q_div, q_nm, q_and, q_or, q_xor, q_shr, q_shl, q_cl, q_a1, q_a3, q_a7, q_a31, q_a63, q_a255, q_a15, q_a16, q_a17, q_a2, q_a4, q_a8, q_a1024, q_a65536, Nat.reduceMod, Nat.reducePow, Nat.reduceDiv, Nat.reduceMul, Nat.reduceAdd, Nat.reduceSub, Nat.reduceEqDiff, q_ltT, q_ltF, q_leT, q_leF, q_eqT, q_eqF, q_inT, q_bz0, q_bz1, b_T, b_F, true_and, and_true, if_true, if_false, k6, Nat.div_one, Nat.reduceLT]
  exact go
theorem c_skip {σ0 : SS} {T : Nat → Nat} {len en : Nat} {post : SS → Prop} (hen : en ≤ len) (hE : en = len ∨ T en = 10) (h : ∀ u, FrS σ0 u → u.1 36 = nI en → u.1 35 = σ0.1 35 → u.2.2.2 13 = σ0.2.2.2 13 → post u) (k : Nat) : ∀ (p : Nat) (σ : SS), p + k = en → CTx σ T len → FrS σ0 σ → σ.1 36 = nI p → σ.1 35 = σ0.1 35 → σ.2.2.2 13 = σ0.2.2.2 13 → (∀ i, p ≤ i → i < en → T i ≠ 10) → f_I_skipLine_0 post (k + 1) σ := by
  induction k with
  | zero =>
    intro p σ hp ht hf h36 h35 h13 hn
    obtain ⟨t1, t2, t3⟩ := id ht
    have : p = en := by omega
    subst this
    rw [f_I_skipLine_0, t2, h36]
    by_cases ce : p = len
    · exact b_t (by rw [q_le (by omega) (by omega)]; omega) (h σ hf h36 h35 h13)
    · obtain ⟨c1, c2⟩ := t3 p (by omega)
      have hE : T p = 10 := by rcases hE with z | z; exact absurd z ce; exact z
      refine b_f (by rw [q_le (by omega) (by omega)]; omega) ⟨by rw [q_in (by omega)]; omega, ?_⟩
      rw [q_cl (by omega), c2, hE]
      exact b_t rfl (h σ hf h36 h35 h13)
  | succ k ih =>
    intro p σ hp ht hf h36 h35 h13 hn
    obtain ⟨t1, t2, t3⟩ := id ht
    obtain ⟨c1, c2⟩ := t3 p (by omega)
    have := hn p (by omega) (by omega)
    rw [f_I_skipLine_0, t2, h36]
    refine b_f (by rw [q_le (by omega) (by omega)]; omega) ⟨by rw [q_in (by omega)]; omega, ?_⟩
    rw [q_cl (by omega), c2]
    refine b_f (by rw [q_lit, q_eq (by omega) (by omega)]; exact this) ?_
    simp (disch := omega) only [nm, q_lit, q_add]
    exact ih (p + 1) _ (by omega) (ht.fr ((FrS.refl _).sI (by omega) _)) (hf.sI (by omega) _) rfl h35 h13 (fun i a b => hn i (by omega) b)
