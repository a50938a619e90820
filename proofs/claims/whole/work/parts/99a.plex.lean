/-! the pure side: the reference's reading of items -/
theorem q_ltN {a b : Nat} (h : 2147483648 ≤ a) (h2 : a < 4294967296) (hb : b < 2147483648) : (nI a < nI b) = True := by
  apply eq_true
  rw [Int32.lt_iff_toInt_lt, nI_toInt hb]
  show (Int32.ofNat a).toInt < b
  rw [Int32.toInt_ofNat']
  show ((a : Nat) : Int).bmod 4294967296 < b
  rw [Int.bmod_def]
  omega
theorem q_gtN {a b : Nat} (h : 2147483648 ≤ a) (h2 : a < 4294967296) (hb : b < 2147483648) : (nI b < nI a) = False := by
  apply eq_false
  have := q_ltN h h2 hb
  intro z
  have h3 : nI a < nI b := by rw [this]; trivial
  rw [Int32.lt_iff_toInt_lt] at z h3
  omega
theorem q_leN {a b : Nat} (h : 2147483648 ≤ a) (h2 : a < 4294967296) (hb : b < 2147483648) : (nI a ≤ nI b) = True := by
  apply eq_true
  have h3 : nI a < nI b := by rw [q_ltN h h2 hb]; trivial
  rw [Int32.lt_iff_toInt_lt] at h3
  rw [Int32.le_iff_toInt_le]
  omega
theorem q_geN {a b : Nat} (h : 2147483648 ≤ a) (h2 : a < 4294967296) (hb : b < 2147483648) : (nI b ≤ nI a) = False := by
  apply eq_false
  intro z
  have h3 : nI a < nI b := by rw [q_ltN h h2 hb]; trivial
  rw [Int32.lt_iff_toInt_lt] at h3
  rw [Int32.le_iff_toInt_le] at z
  omega
theorem by_lo : ∀ c, c < 128 → by8 c = nI c := by decide +kernel
theorem by_hi : ∀ c, c < 128 → by8 (c + 128) = nI (c + 4294967168) := by decide +kernel
theorem by_e {c : Nat} (h : c < 256) : (c < 128 ∧ by8 c = nI c) ∨ (128 ≤ c ∧ by8 c = nI (c + 4294967040)) := by
  by_cases h1 : c < 128
  · exact Or.inl ⟨h1, by_lo c h1⟩
  · have := by_hi (c - 128) (by omega)
    rw [show c - 128 + 128 = c by omega, show c - 128 + 4294967168 = c + 4294967040 by omega] at this
    exact Or.inr ⟨by omega, this⟩
abbrev Tk : Type := Nat × Nat × List Nat
def bl (c : Nat) : Prop := c = 32 ∨ c = 9
def ltr (c : Nat) : Prop := (65 ≤ c ∧ c ≤ 90) ∨ c = 46
def sgn (c : Nat) : Prop := c = 43 ∨ c = 45 ∨ c = 44 ∨ c = 64 ∨ c = 35 ∨ c = 58
/-- an octal number; 65536 for none -/
def nv (a : Nat) : List Nat → Nat
  | [] => a
  | c :: r => if 48 ≤ c ∧ c ≤ 55 then nv (min (a * 8 + (c - 48)) 65536) r else 65536
theorem nv_max (cs : List Nat) : nv 65536 cs = 65536 := by
  induction cs with
  | nil => rfl
  | cons c r ih =>
    unfold nv
    by_cases h : 48 ≤ c ∧ c ≤ 55
    · rw [if_pos h, show min (65536 * 8 + (c - 48)) 65536 = 65536 by omega]; exact ih
    · rw [if_neg h]
def wTok (cs : List Nat) : Tk := if 48 ≤ cs.getD 0 0 ∧ cs.getD 0 0 ≤ 57 then (if nv 0 cs < 65536 then (3, nv 0 cs, []) else (1, 0, [])) else (if cs.length ≤ 6 then (2, 0, cs) else (1, 0, []))
def seg (T : Nat → Nat) (p n : Nat) : List Nat := (List.range' p n).map T
def tokAt (T : Nat → Nat) (e q n : Nat) (t : Tk) : Prop := (0 < n ∧ (∀ i, i < n → isL (T (q + i))) ∧ q + n ≤ e ∧ (q + n = e ∨ ¬ isL (T (q + n))) ∧ t = wTok (seg T q n)) ∨ (¬ isL (T q) ∧ ¬ bl (T q) ∧ n = 1 ∧ q < e ∧ ((sgn (T q) ∧ t = (T q, 0, [])) ∨ (¬ sgn (T q) ∧ t = (1, 0, []))))
def LexL (T : Nat → Nat) (e : Nat) : Nat → List Tk → Prop
  | p, [] => p ≤ e ∧ ∀ i, p ≤ i → i < e → bl (T i)
  | p, t :: r => ∃ q n, p ≤ q ∧ (∀ i, p ≤ i → i < q → bl (T i)) ∧ tokAt T e q n t ∧ LexL T e (q + n) r
/-- the reference at a token -/
def RTk (τ : SS) (t : Tk) : Prop := (t.1 = 2 ∧ isN t.2.2 ∧ τ.1 22 = nI 1 ∧ τ.2.2.1 0 = jI (nameR 0 t.2.2)) ∨ (t.1 = 3 ∧ t.2.1 < 65536 ∧ τ.1 22 = nI 2 ∧ τ.1 23 = nI t.2.1) ∨ (sgn t.1 ∧ τ.1 22 = nI 3 ∧ τ.1 23 = nI t.1)
/-- what reading an item leaves alone -/
def Zf (τ v : SS) : Prop := v.1 13 = nI 0 → τ.1 13 = nI 0 ∧ v.1 14 = τ.1 14
theorem Zf.refl (τ : SS) : Zf τ τ := fun h => ⟨h, rfl⟩
theorem Zf.trans {a b c : SS} (h : Zf a b) (g : Zf b c) : Zf a c := fun z => ⟨(h (g z).1).1, (g z).2.trans (h (g z).1).2⟩
theorem Zf.of {a b c : SS} (h : Zf a b) (h13 : c.1 13 = b.1 13) (h14 : c.1 14 = b.1 14) : Zf a c := fun z => by rw [h13] at z; rw [h14]; exact h z
theorem Zf.flt {a b : SS} {f : Nat} (hf : 0 < f) (h8 : f < 8) (h : b.1 13 = nI f) : Zf a b := fun z => by rw [h, q_eq (by omega) (by omega)] at z; omega
theorem Zf.sI {a b : SS} (h : Zf a b) {k : Nat} (h13 : k ≠ 13) (h14 : k ≠ 14) (v : Int32) : Zf a (sI b k v) := h.of (by rw [sI_1, if_neg (Ne.symm h13)]) (by rw [sI_1, if_neg (Ne.symm h14)])
def FrN (τ v : SS) : Prop := (∀ k, k ≠ 13 → k ≠ 14 → k ≠ 20 → k ≠ 22 → k ≠ 23 → v.1 k = τ.1 k) ∧ v.2.1 = τ.2.1 ∧ v.2.2.2 = τ.2.2.2 ∧ Zf τ v
theorem FrN.refl (τ : SS) : FrN τ τ := ⟨fun _ _ _ _ _ _ => rfl, rfl, rfl, Zf.refl τ⟩
theorem FrN.trans {a b c : SS} (h : FrN a b) (g : FrN b c) : FrN a c := ⟨fun k h1 h2 h3 h4 h5 => (g.1 k h1 h2 h3 h4 h5).trans (h.1 k h1 h2 h3 h4 h5), g.2.1.trans h.2.1, g.2.2.1.trans h.2.2.1, h.2.2.2.trans g.2.2.2⟩
theorem FrN.flt {a b : SS} (h : FrN a b) {f : Nat} (hf : 0 < f) (h8 : f < 8) (v : Int32) : FrN a (sI (sI b 13 (nI f)) 14 v) := ⟨fun j h1 h2 h3 h4 h5 => by rw [sI_1, if_neg h2, sI_1, if_neg h1]; exact h.1 j h1 h2 h3 h4 h5, h.2.1, h.2.2.1, Zf.flt (f := f) hf h8 rfl⟩
theorem FrN.sI {a b : SS} (h : FrN a b) {k : Nat} (hk : k = 20 ∨ k = 22 ∨ k = 23) (v : Int32) : FrN a (sI b k v) := ⟨fun j h1 h2 h3 h4 h5 => by rw [sI_1, if_neg (by omega)]; exact h.1 j h1 h2 h3 h4 h5, h.2.1, h.2.2.1, h.2.2.2.sI (by omega) (by omega) v⟩
theorem FrN.sL {a b : SS} (h : FrN a b) (k : Nat) (v : Int64) : FrN a (sL b k v) := ⟨h.1, h.2.1, h.2.2.1, h.2.2.2⟩
/-- the reference's text -/
def RTx (τ : SS) (T : Nat → Nat) (len : Nat) : Prop := len ≤ 6000 ∧ τ.1 12 = nI len ∧ ∀ i, i < len → T i < 256 ∧ τ.2.1 9 i = by8 (T i)
theorem RTx.fr {τ v : SS} {T : Nat → Nat} {len : Nat} (h : RTx τ T len) (f : FrN τ v) : RTx v T len := ⟨h.1, by rw [f.1 12 (by omega) (by omega) (by omega) (by omega) (by omega)]; exact h.2.1, by rw [f.2.1]; exact h.2.2⟩
theorem r_isL {τ : SS} {c : Nat} {post : Int32 → SS → Prop} (hc : c < 256) (h1 : ltr c → post (nI 1) τ) (h0 : ¬ ltr c → post (nI 0) τ) : f_R_isLetter post τ (by8 c) := by
  unfold ltr at h1 h0
  rcases by_e hc with ⟨g, e⟩ | ⟨g, e⟩
  · rw [e]
    by_cases c1 : c < 65
    · by_cases c2 : c = 46
      · simp (disch := omega) only [f_R_isLetter, f_R_isLetter_12, nm, q_lit, q_add, q_sub, q_subN, q_n1, q_mul, q_div, q_nm, q_and, q_or, q_xor, q_shr, q_shl, q_cl, q_a1, q_a3, q_a7, q_a31, q_a63, q_a255, q_a15, q_a16, q_a17, q_a2, q_a4, q_a8, q_a1024, q_a65536, Nat.reduceMod, Nat.reducePow, Nat.reduceDiv, Nat.reduceMul, Nat.reduceAdd, Nat.reduceSub, Nat.reduceEqDiff, q_ltT, q_ltF, q_leT, q_leF, q_eqT, q_eqF, q_inT, q_bz0, q_bz1, b_T, b_F, true_and, and_true, if_true, if_false]; exact h1 (by omega)
      · simp (disch := omega) only [f_R_isLetter, f_R_isLetter_12, nm, q_lit, q_add, q_sub, q_subN, q_n1, q_mul, q_div, q_nm, q_and, q_or, q_xor, q_shr, q_shl, q_cl, q_a1, q_a3, q_a7, q_a31, q_a63, q_a255, q_a15, q_a16, q_a17, q_a2, q_a4, q_a8, q_a1024, q_a65536, Nat.reduceMod, Nat.reducePow, Nat.reduceDiv, Nat.reduceMul, Nat.reduceAdd, Nat.reduceSub, Nat.reduceEqDiff, q_ltT, q_ltF, q_leT, q_leF, q_eqT, q_eqF, q_inT, q_bz0, q_bz1, b_T, b_F, true_and, and_true, if_true, if_false]; exact h0 (by omega)
    · by_cases c2 : c ≤ 90
      · simp (disch := omega) only [f_R_isLetter, f_R_isLetter_12, nm, q_lit, q_add, q_sub, q_subN, q_n1, q_mul, q_div, q_nm, q_and, q_or, q_xor, q_shr, q_shl, q_cl, q_a1, q_a3, q_a7, q_a31, q_a63, q_a255, q_a15, q_a16, q_a17, q_a2, q_a4, q_a8, q_a1024, q_a65536, Nat.reduceMod, Nat.reducePow, Nat.reduceDiv, Nat.reduceMul, Nat.reduceAdd, Nat.reduceSub, Nat.reduceEqDiff, q_ltT, q_ltF, q_leT, q_leF, q_eqT, q_eqF, q_inT, q_bz0, q_bz1, b_T, b_F, true_and, and_true, if_true, if_false]; exact h1 (by omega)
      · simp (disch := omega) only [f_R_isLetter, f_R_isLetter_12, nm, q_lit, q_add, q_sub, q_subN, q_n1, q_mul, q_div, q_nm, q_and, q_or, q_xor, q_shr, q_shl, q_cl, q_a1, q_a3, q_a7, q_a31, q_a63, q_a255, q_a15, q_a16, q_a17, q_a2, q_a4, q_a8, q_a1024, q_a65536, Nat.reduceMod, Nat.reducePow, Nat.reduceDiv, Nat.reduceMul, Nat.reduceAdd, Nat.reduceSub, Nat.reduceEqDiff, q_ltT, q_ltF, q_leT, q_leF, q_eqT, q_eqF, q_inT, q_bz0, q_bz1, b_T, b_F, true_and, and_true, if_true, if_false]; exact h0 (by omega)
  · rw [e]
    simp (disch := omega) only [f_R_isLetter, f_R_isLetter_12, nm, q_lit, q_add, q_sub, q_subN, q_n1, q_mul, q_div, q_nm, q_and, q_or, q_xor, q_shr, q_shl, q_cl, q_a1, q_a3, q_a7, q_a31, q_a63, q_a255, q_a15, q_a16, q_a17, q_a2, q_a4, q_a8, q_a1024, q_a65536, Nat.reduceMod, Nat.reducePow, Nat.reduceDiv, Nat.reduceMul, Nat.reduceAdd, Nat.reduceSub, Nat.reduceEqDiff, q_ltT, q_ltF, q_leT, q_leF, q_eqT, q_eqF, q_inT, q_bz0, q_bz1, b_T, b_F, true_and, and_true, if_true, if_false, q_ltN]; exact h0 (by omega)
theorem r_isD {τ : SS} {c : Nat} {post : Int32 → SS → Prop} (hc : c < 256) (h1 : 48 ≤ c ∧ c ≤ 57 → post (nI 1) τ) (h0 : ¬ (48 ≤ c ∧ c ≤ 57) → post (nI 0) τ) : f_R_isDigit post τ (by8 c) := by
  rcases by_e hc with ⟨g, e⟩ | ⟨g, e⟩
  · rw [e]
    by_cases c1 : c < 48
    · simp (disch := omega) only [f_R_isDigit, nm, q_lit, q_add, q_sub, q_subN, q_n1, q_mul, q_div, q_nm, q_and, q_or, q_xor, q_shr, q_shl, q_cl, q_a1, q_a3, q_a7, q_a31, q_a63, q_a255, q_a15, q_a16, q_a17, q_a2, q_a4, q_a8, q_a1024, q_a65536, Nat.reduceMod, Nat.reducePow, Nat.reduceDiv, Nat.reduceMul, Nat.reduceAdd, Nat.reduceSub, Nat.reduceEqDiff, q_ltT, q_ltF, q_leT, q_leF, q_eqT, q_eqF, q_inT, q_bz0, q_bz1, b_T, b_F, true_and, and_true, if_true, if_false]; exact h0 (by omega)
    · by_cases c2 : c ≤ 57
      · simp (disch := omega) only [f_R_isDigit, nm, q_lit, q_add, q_sub, q_subN, q_n1, q_mul, q_div, q_nm, q_and, q_or, q_xor, q_shr, q_shl, q_cl, q_a1, q_a3, q_a7, q_a31, q_a63, q_a255, q_a15, q_a16, q_a17, q_a2, q_a4, q_a8, q_a1024, q_a65536, Nat.reduceMod, Nat.reducePow, Nat.reduceDiv, Nat.reduceMul, Nat.reduceAdd, Nat.reduceSub, Nat.reduceEqDiff, q_ltT, q_ltF, q_leT, q_leF, q_eqT, q_eqF, q_inT, q_bz0, q_bz1, b_T, b_F, true_and, and_true, if_true, if_false]; exact h1 (by omega)
      · simp (disch := omega) only [f_R_isDigit, nm, q_lit, q_add, q_sub, q_subN, q_n1, q_mul, q_div, q_nm, q_and, q_or, q_xor, q_shr, q_shl, q_cl, q_a1, q_a3, q_a7, q_a31, q_a63, q_a255, q_a15, q_a16, q_a17, q_a2, q_a4, q_a8, q_a1024, q_a65536, Nat.reduceMod, Nat.reducePow, Nat.reduceDiv, Nat.reduceMul, Nat.reduceAdd, Nat.reduceSub, Nat.reduceEqDiff, q_ltT, q_ltF, q_leT, q_leF, q_eqT, q_eqF, q_inT, q_bz0, q_bz1, b_T, b_F, true_and, and_true, if_true, if_false]; exact h0 (by omega)
  · rw [e]
    simp (disch := omega) only [f_R_isDigit, nm, q_lit, q_add, q_sub, q_subN, q_n1, q_mul, q_div, q_nm, q_and, q_or, q_xor, q_shr, q_shl, q_cl, q_a1, q_a3, q_a7, q_a31, q_a63, q_a255, q_a15, q_a16, q_a17, q_a2, q_a4, q_a8, q_a1024, q_a65536, Nat.reduceMod, Nat.reducePow, Nat.reduceDiv, Nat.reduceMul, Nat.reduceAdd, Nat.reduceSub, Nat.reduceEqDiff, q_ltT, q_ltF, q_leT, q_leF, q_eqT, q_eqF, q_inT, q_bz0, q_bz1, b_T, b_F, true_and, and_true, if_true, if_false, q_ltN]; exact h0 (by omega)
theorem r_blank {τ : SS} {T : Nat → Nat} {len e : Nat} {post : Int32 → SS → Prop} (he : e ≤ len) (k : Nat) : ∀ (n p : Nat) (τ : SS), RTx τ T len → τ.1 21 = nI e → τ.1 20 = nI p → p + k ≤ e → (∀ i, p ≤ i → i < p + k → bl (T i)) → f_R_next_9 post n (sI τ 20 (nI (p + k))) → f_R_next_9 post (n + k) τ := by
  induction k with
  | zero =>
    intro n p τ ht h21 h20 hp hb h
    rw [Nat.add_zero, ← h20, sI_self] at h
    exact h
  | succ k ih =>
    intro n p τ ht h21 h20 hp hb h
    obtain ⟨t1, t2, t3⟩ := id ht
    obtain ⟨c1, c2⟩ := t3 p (by omega)
    have hb0 := hb p (by omega) (by omega)
    have go : f_R_next_48 post (f_R_next_9 post (n + k)) τ := by
      simp (disch := omega) only [f_R_next_48, nm, q_lit, q_add, q_sub, q_subN, q_n1, q_mul, q_div, q_nm, q_and, q_or, q_xor, q_shr, q_shl, q_cl, q_a1, q_a3, q_a7, q_a31, q_a63, q_a255, q_a15, q_a16, q_a17, q_a2, q_a4, q_a8, q_a1024, q_a65536, Nat.reduceMod, Nat.reducePow, Nat.reduceDiv, Nat.reduceMul, Nat.reduceAdd, Nat.reduceSub, Nat.reduceEqDiff, q_ltT, q_ltF, q_leT, q_leF, q_eqT, q_eqF, q_inT, q_bz0, q_bz1, b_T, b_F, true_and, and_true, if_true, if_false, h20]
      refine ih n (p + 1) (sI τ 20 (nI (p + 1))) (ht.fr ((FrN.refl _).sI (by omega) _)) h21 rfl (by omega) (fun i a b => hb i (by omega) (by omega)) ?_
      rw [sI_sI, show p + 1 + k = p + (k + 1) by omega]
      exact h
    rw [show n + (k + 1) = n + k + 1 by omega, f_R_next_9]
    rw [h21, h20]
    refine b_f (by rw [q_le (by omega) (by omega)]; omega) ⟨by rw [q_in (by omega)]; omega, ?_⟩
    rw [q_cl (by omega), c2, by_lo (T p) (by unfold bl at hb0; omega)]
    rcases hb0 with z | z
    · exact b_t (by rw [z]; rfl) go
    · exact b_f (by rw [z]; decide) ⟨by rw [q_in (by omega)]; omega, b_t (by rw [z]; rfl) go⟩
/-- a fault at an item that is none -/
def RF (τ : SS) (f : Nat) (v : SS) : Prop := FrN τ v ∧ v.1 13 = nI f ∧ v.1 14 = τ.1 15
theorem r_stop {τ : SS} {f : Nat} {post : Int32 → SS → Prop} (h0 : τ.1 13 = nI 0) (h : post (nI 0) (sI (sI τ 13 (nI f)) 14 (τ.1 15))) : f_R_stop post τ (nI f) := by
  simp (disch := omega) only [f_R_stop, nm, q_lit, q_add, q_sub, q_subN, q_n1, q_mul, q_div, q_nm, q_and, q_or, q_xor, q_shr, q_shl, q_cl, q_a1, q_a3, q_a7, q_a31, q_a63, q_a255, q_a15, q_a16, q_a17, q_a2, q_a4, q_a8, q_a1024, q_a65536, Nat.reduceMod, Nat.reducePow, Nat.reduceDiv, Nat.reduceMul, Nat.reduceAdd, Nat.reduceSub, Nat.reduceEqDiff, q_ltT, q_ltF, q_leT, q_leF, q_eqT, q_eqF, q_inT, q_bz0, q_bz1, b_T, b_F, true_and, and_true, if_true, if_false, h0]; exact h
