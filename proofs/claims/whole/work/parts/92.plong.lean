/-! the pure side: longs and names -/
def jI (n : Nat) : Int64 := Int64.ofNat n
theorem j_lit (m : Nat) : (@OfNat.ofNat Int64 m Int64.instOfNat) = jI (@OfNat.ofNat Nat m (instOfNatNat m)) := rfl
theorem j_and (a b : Nat) : jI a &&& jI b = jI (a &&& b) := Int64.toBitVec_inj.1 (BitVec.ofNat_and (w := 64) (x := a) (y := b)).symm
theorem j_or (a b : Nat) : jI a ||| jI b = jI (a ||| b) := Int64.toBitVec_inj.1 (BitVec.ofNat_or (w := 64) (x := a) (y := b)).symm
theorem j_add (a b : Nat) : jI a + jI b = jI (a + b) := (Int64.ofNat_add a b).symm
theorem j_mul (a b : Nat) : jI a * jI b = jI (a * b) := (Int64.ofNat_mul a b).symm
theorem j_sm : ∀ n, n < 64 → ((jI n).toBitVec.smod 64).toNat = n := by decide +kernel
theorem j_um : ∀ n, n < 64 → ((jI n).toUInt64.toBitVec % 64).toNat = n := by decide +kernel
theorem j_shr {a k : Nat} (ha : a < 9223372036854775808) (hk : k < 64) : jI a >>> jI k = jI (a / 2 ^ k) := by
  apply Int64.toBitVec_inj.1
  rw [Int64.toBitVec_shiftRight]
  show (BitVec.ofNat 64 a).sshiftRight ((jI k).toBitVec.smod 64).toNat = BitVec.ofNat 64 (a / 2 ^ k)
  rw [j_sm k hk]
  have hm : (BitVec.ofNat 64 a).msb = false := by
    rw [BitVec.msb_eq_false_iff_two_mul_lt, BitVec.toNat_ofNat, Nat.mod_eq_of_lt (by omega)]
    omega
  rw [BitVec.sshiftRight_eq_of_msb_false hm]
  apply BitVec.eq_of_toNat_eq
  have h2 : a / 2 ^ k ≤ a := Nat.div_le_self _ _
  rw [BitVec.toNat_ushiftRight, BitVec.toNat_ofNat, BitVec.toNat_ofNat, Nat.mod_eq_of_lt (by omega), Nat.mod_eq_of_lt (by omega), Nat.shiftRight_eq_div_pow]
theorem j_shl {a k : Nat} (hk : k < 64) : jI a <<< jI k = jI (a * 2 ^ k) := by
  apply Int64.toBitVec_inj.1
  rw [Int64.toBitVec_shiftLeft]
  show (BitVec.ofNat 64 a) <<< ((jI k).toBitVec.smod 64).toNat = BitVec.ofNat 64 (a * 2 ^ k)
  rw [j_sm k hk]
  apply BitVec.eq_of_toNat_eq
  rw [BitVec.toNat_shiftLeft, BitVec.toNat_ofNat, BitVec.toNat_ofNat, Nat.shiftLeft_eq, Nat.mod_mul_mod]
theorem j_ush {a k : Nat} (ha : a < 18446744073709551616) (hk : k < 64) : ((jI a).toUInt64 >>> (jI k).toUInt64).toInt64 = jI (a / 2 ^ k) := by
  apply Int64.toBitVec_inj.1
  show (BitVec.ofNat 64 a) >>> ((jI k).toUInt64.toBitVec % 64).toNat = BitVec.ofNat 64 (a / 2 ^ k)
  rw [j_um k hk]
  apply BitVec.eq_of_toNat_eq
  have h2 : a / 2 ^ k ≤ a := Nat.div_le_self _ _
  rw [BitVec.toNat_ushiftRight, BitVec.toNat_ofNat, BitVec.toNat_ofNat, Nat.mod_eq_of_lt (by omega), Nat.mod_eq_of_lt (by omega), Nat.shiftRight_eq_div_pow]
theorem j_i (n : Nat) : (jI n).toInt32 = nI n := by
  first | exact Int64.toInt32_ofNat' | exact Int64.toInt32_ofNat n | simp [jI, nI]
theorem n_j {n : Nat} (h : n < 2147483648) : (nI n).toInt64 = jI n := by
  apply Int64.toInt_inj.mp
  rw [Int32.toInt_toInt64, nI_toInt h]
  show (n : Int) = (Int64.ofNat n).toInt
  rw [Int64.toInt_ofNat_of_lt (by omega)]
theorem j_eq {a b : Nat} (ha : a < 18446744073709551616) (hb : b < 18446744073709551616) : (jI a = jI b) = (a = b) := by
  apply propext
  rw [← Int64.toBitVec_inj]
  show BitVec.ofNat 64 a = BitVec.ofNat 64 b ↔ _
  rw [← BitVec.toNat_inj, BitVec.toNat_ofNat, BitVec.toNat_ofNat, Nat.mod_eq_of_lt (by omega), Nat.mod_eq_of_lt (by omega)]
theorem j_le {a b : Nat} (ha : a < 9223372036854775808) (hb : b < 9223372036854775808) : (jI a ≤ jI b) = (a ≤ b) := by
  apply propext
  have e : ∀ n : Nat, n < 9223372036854775808 → (jI n).toInt = n := fun n h => Int64.toInt_ofNat_of_lt (by omega)
  rw [Int64.le_iff_toInt_le, e a ha, e b hb]
  omega
theorem j_c0 (a b : Int64) : (lg_cmp a b = nI 0) = (a = b) := propext (lg_cmp_eq a b)
theorem j_cl (a b : Int64) : (lg_cmp a b ≤ nI 0) = (a ≤ b) := propext (lg_cmp_le a b)
theorem j_eqT {a b : Nat} (h : a = b) : (jI a = jI b) = True := eq_true (by rw [h])
theorem j_eqF {a b : Nat} (h : a ≠ b) (ha : a < 18446744073709551616) (hb : b < 18446744073709551616) : (jI a = jI b) = False := eq_false (fun z => h ((j_eq ha hb).mp z))
theorem j_leT {a b : Nat} (h : a ≤ b) (hb : b < 9223372036854775808) : (jI a ≤ jI b) = True := eq_true ((j_le (by omega) hb).mpr h)
theorem j_leF {a b : Nat} (h : b < a) (ha : a < 9223372036854775808) : (jI a ≤ jI b) = False := eq_false (fun z => by have := (j_le ha (by omega)).mp z; omega)
theorem j_of (x : Int64) : ∃ n, n < 18446744073709551616 ∧ x = jI n := by
  refine ⟨x.toBitVec.toNat, x.toBitVec.isLt, ?_⟩
  apply Int64.toBitVec_inj.1
  show x.toBitVec = BitVec.ofNat 64 x.toBitVec.toNat
  simp
theorem n_of (x : Int32) : ∃ n, n < 4294967296 ∧ x = nI n := by
  refine ⟨x.toBitVec.toNat, x.toBitVec.isLt, ?_⟩
  apply Int32.toBitVec_inj.1
  show x.toBitVec = BitVec.ofNat 32 x.toBitVec.toNat
  simp
/-- an int that is made a long, by its bits -/
theorem n_jl {n : Nat} (h : n < 4294967296) : ∃ m, m < 18446744073709551616 ∧ (nI n).toInt64 = jI m ∧ m % 4294967296 = n := by
  obtain ⟨m, hm, e⟩ := j_of (nI n).toInt64
  refine ⟨m, hm, e, ?_⟩
  have e2 : ((nI n).toInt64).toInt32 = nI n := Int32.toInt32_toInt64 _
  rw [e, j_i] at e2
  have e3 : nI m = nI (m % 4294967296) := by
    apply Int32.toBitVec_inj.1
    show BitVec.ofNat 32 m = BitVec.ofNat 32 (m % 4294967296)
    apply BitVec.eq_of_toNat_eq
    simp
  rw [e3, q_eq (by omega) h] at e2
  exact e2
theorem nameR_a (cs : List Nat) : ∀ a, nameR a cs = a * 256 ^ cs.length + nameR 0 cs := by
  induction cs with
  | nil => intro a; simp [nameR]
  | cons c r ih =>
    intro a
    simp only [nameR, List.length_cons]
    rw [ih (a * 256 + c), ih (0 * 256 + c), Nat.pow_succ, Nat.add_mul, Nat.zero_mul, Nat.zero_add, Nat.mul_assoc, Nat.mul_comm 256, Nat.add_assoc]
theorem nameR_lt (cs : List Nat) (h : ∀ c ∈ cs, c < 256) : nameR 0 cs < 256 ^ cs.length := by
  induction cs with
  | nil => simp [nameR]
  | cons c r ih =>
    have h1 := ih (fun x hx => h x (List.mem_cons_of_mem _ hx))
    have h2 := h c List.mem_cons_self
    simp only [nameR, List.length_cons]
    rw [nameR_a, Nat.zero_mul, Nat.zero_add, Nat.pow_succ]
    have h3 : c * 256 ^ r.length + 256 ^ r.length ≤ 256 * 256 ^ r.length := by
      have := Nat.mul_le_mul_right (256 ^ r.length) (show c + 1 ≤ 256 by omega)
      rw [Nat.add_mul, Nat.one_mul] at this
      exact this
    rw [Nat.mul_comm (256 ^ r.length)]
    omega
theorem nameC_e (cs : List Nat) : cs.length ≤ 8 → nameC cs = nameR 0 cs * 256 ^ (8 - cs.length) := by
  induction cs with
  | nil => intro _; simp [nameC, nameR]
  | cons c r ih =>
    intro h
    simp only [List.length_cons] at h ⊢
    have h1 := ih (by omega)
    simp only [nameC, nameR]
    rw [h1, nameR_a r (0 * 256 + c), Nat.zero_mul, Nat.zero_add]
    have e1 : 8 - r.length = 8 - (r.length + 1) + 1 := by omega
    rw [e1, Nat.pow_succ, ← Nat.mul_assoc, Nat.mul_div_cancel _ (by omega), Nat.add_mul]
    congr 1
    rw [Nat.mul_assoc, ← Nat.pow_add, show r.length + (8 - (r.length + 1)) = 7 by omega]
theorem isL_b {c : Nat} (h : isL c) : 46 ≤ c ∧ c ≤ 90 := by unfold isL at h; omega
theorem isN_lo {cs : List Nat} (h : isN cs) : 256 ^ (cs.length - 1) ≤ nameR 0 cs ∧ nameR 0 cs < 256 ^ cs.length := by
  obtain ⟨h1, h2, h3⟩ := h
  refine ⟨?_, nameR_lt cs (fun c hc => by have := isL_b (h3 c hc); omega)⟩
  cases cs with
  | nil => simp at h1
  | cons c r =>
    have := isL_b (h3 c List.mem_cons_self)
    simp only [nameR, List.length_cons, Nat.add_sub_cancel]
    rw [nameR_a, Nat.zero_mul, Nat.zero_add]
    have : 1 * 256 ^ r.length ≤ c * 256 ^ r.length := Nat.mul_le_mul_right _ (by omega)
    omega
theorem isN_48 {cs : List Nat} (h : isN cs) : nameR 0 cs < 281474976710656 := by
  have h1 := (isN_lo h).2
  have h2 : 256 ^ cs.length ≤ 256 ^ 6 := Nat.pow_le_pow_right (by omega) h.2.1
  have : (256 : Nat) ^ 6 = 281474976710656 := by decide
  omega
theorem r_sizeL {σ : SS} {post : Int32 → SS → Prop} (L : Nat) : ∀ (a i : Nat), a < 281474976710656 → a < 256 ^ L → (0 < L → 256 ^ (L - 1) ≤ a) → post (nI (i + L)) σ → f_R_sizeOf_4 post (L + 1) σ (nI i) (jI a) := by
  induction L with
  | zero =>
    intro a i h0 h1 h2 h
    have : a = 0 := by simp at h1; exact h1
    subst this
    rw [f_R_sizeOf_4]
    refine b_t ?_ h
    rw [q_lit, j_lit, j_cl, j_le (by omega) (by omega)]
    exact Nat.le_refl _
  | succ L ih =>
    intro a i h0 h1 h2 h
    have h3 := h2 (by omega)
    have hp : 0 < 256 ^ L := Nat.pos_of_ne_zero (by simp)
    rw [Nat.add_sub_cancel] at h3
    rw [f_R_sizeOf_4]
    refine b_f ?_ ?_
    · rw [q_lit, j_lit, j_cl, j_le (by omega) (by omega)]
      omega
    · have e : jI a >>> ((8 : Int32).toInt64 &&& 63) = jI (a / 256) := by
        rw [j_lit, q_lit, n_j (by omega), j_and]
        exact j_shr (k := 8) (by omega) (by omega)
      simp (disch := omega) only [nm, q_lit, q_add]
      rw [q_lit] at e
      rw [e]
      have h4 : a / 256 < 256 ^ L := by
        rw [Nat.pow_succ, Nat.mul_comm] at h1
        exact Nat.div_lt_of_lt_mul h1
      refine ih (a / 256) (i + 1) (by omega) h4 (fun hL => ?_) ?_
      · have e2 : L = L - 1 + 1 := by omega
        rw [e2, Nat.pow_succ] at h3
        exact (Nat.le_div_iff_mul_le (by omega)).mpr h3
      · rw [show i + 1 + L = i + (L + 1) by omega]; exact h
theorem r_size {σ : SS} {cs : List Nat} {post : Int32 → SS → Prop} (h : isN cs) (hp : post (nI cs.length) σ) : f_R_sizeOf post σ (jI (nameR 0 cs)) := by
  have h1 := isN_lo h
  refine ⟨cs.length + 1, r_sizeL cs.length _ 0 (isN_48 h) h1.2 (fun _ => h1.1) ?_⟩
  rw [Nat.zero_add]; exact hp
/-- a label's key beside its name: what label compares -/
theorem lab_cmp {cs : List Nat} (h : isN cs) (x1 x2 : Int32) : (Int64.ofNat (nameC cs) = ((x1.toInt64) <<< ((32 : Int32).toInt64 &&& 63)) ||| ((x2.toInt64) &&& 4294967295)) ↔ ((((jI (nameR 0 cs) <<< ((8 * (6 - nI cs.length)).toInt64 &&& 63)) >>> ((16 : Int32).toInt64 &&& 63)).toInt32) = x1 ∧ (((((jI (nameR 0 cs) <<< ((8 * (6 - nI cs.length)).toInt64 &&& 63)) &&& 65535).toInt32) <<< ((16 : Int32) &&& 31)) = x2)) := by
  obtain ⟨k1, k2, k3⟩ := id h
  obtain ⟨a, ha, rfl⟩ := n_of x1
  obtain ⟨b, hb, rfl⟩ := n_of x2
  obtain ⟨m, hm, em, em2⟩ := n_jl ha
  obtain ⟨n, hn, en, en2⟩ := n_jl hb
  have hN := (isN_lo h).2
  have e6 : ∀ L : Nat, L ≤ 6 → (256 : Nat) ^ L * 256 ^ (6 - L) = 281474976710656 := by
    intro L hL
    rw [← Nat.pow_add, show L + (6 - L) = 6 by omega]
  have hV : nameR 0 cs * 256 ^ (6 - cs.length) < 281474976710656 := by
    rw [← e6 cs.length k2]
    exact Nat.mul_lt_mul_of_pos_right hN (Nat.pos_of_ne_zero (by simp))
  have hC : nameC cs = nameR 0 cs * 256 ^ (6 - cs.length) * 65536 := by
    rw [nameC_e cs (by omega), show 8 - cs.length = (6 - cs.length) + 2 by omega, Nat.pow_add, Nat.mul_assoc]
  have e1 : jI (nameR 0 cs) <<< ((8 * (6 - nI cs.length)).toInt64 &&& 63) = jI (nameR 0 cs * 256 ^ (6 - cs.length)) := by
    have e : (8 * (6 - nI cs.length)).toInt64 &&& 63 = jI (8 * (6 - cs.length)) := by
      simp (disch := omega) only [nm, q_lit, q_add, q_sub, q_subN, q_n1, q_mul, q_div, q_nm, q_and, q_or, q_xor, q_shr, q_shl, q_cl, q_a1, q_a3, q_a7, q_a31, q_a63, q_a255, q_a15, q_a16, q_a17, q_a2, q_a4, q_a8, q_a1024, q_a65536, Nat.reduceMod, Nat.reducePow, Nat.reduceDiv, Nat.reduceMul, Nat.reduceAdd, Nat.reduceSub, Nat.reduceEqDiff]
      rw [n_j (by omega), j_lit, j_and, q_a63, Nat.mod_eq_of_lt (by omega)]
    rw [e, j_shl (by omega), Nat.pow_mul]
  rw [e1, hC]
  generalize nameR 0 cs * 256 ^ (6 - cs.length) = V at hV
  have f1 : ((jI V >>> ((16 : Int32).toInt64 &&& 63)).toInt32) = nI (V / 65536) := by
    have e : (16 : Int32).toInt64 &&& 63 = jI 16 := by decide
    rw [e, j_shr (by omega) (by omega), j_i]
  have f2 : ((((jI V &&& 65535).toInt32) <<< ((16 : Int32) &&& 31))) = nI (V % 65536 * 65536) := by
    have e : (16 : Int32) &&& 31 = nI 16 := by decide
    rw [e, j_lit, j_and, q_a16, j_i, q_shl (by omega)]
  have f3 : (((nI a).toInt64) <<< ((32 : Int32).toInt64 &&& 63)) ||| (((nI b).toInt64) &&& 4294967295) = jI (a * 4294967296 + b) := by
    have e : (32 : Int32).toInt64 &&& 63 = jI 32 := by decide
    have e7 : n &&& 4294967295 = b := by
      rw [show (4294967295 : Nat) = 2 ^ 32 - 1 from rfl, Nat.and_two_pow_sub_one_eq_mod]
      exact en2
    rw [e, em, en, j_shl (by omega), j_lit, j_and, e7]
    have e8 : jI (m * 2 ^ 32) = jI (a * 4294967296) := by
      have hm2 := Nat.div_add_mod m 4294967296
      have e9 : m * 2 ^ 32 = a * 4294967296 + m / 4294967296 * 18446744073709551616 := by
        show m * 4294967296 = _
        omega
      rw [e9, ← j_add, ← j_mul, ← j_mul (m / 4294967296)]
      have e10 : jI 18446744073709551616 = jI 0 := by decide
      rw [e10, j_mul, j_mul, Nat.mul_zero, j_add, Nat.add_zero]
    rw [e8, j_or]
    congr 1
    have := or_add (b := b) 32 a (by omega)
    exact this
  rw [f1, f2, f3]
  have g1 : (Int64.ofNat (V * 65536) = jI (a * 4294967296 + b)) = (V * 65536 = a * 4294967296 + b) := j_eq (by omega) (by omega)
  rw [g1, q_eq (by omega) ha, q_eq (by omega) hb]
  omega
theorem s_lab {kC kR : Nat → Int64} {pC pR : Nat → Int32} {K : Nat} (hK : K ≤ 200) (hx : ∀ i, i < K → (∃ cs, isN cs ∧ kC i = Int64.ofNat (nameC cs) ∧ kR i = Int64.ofNat (nameR 0 cs)) ∧ pC i = pR i) (x1 x2 : Int32) {σ τ : SS} {C : (Int32 → SS → Prop) → Nat → Int32 → Prop}
    (hC0 : ∀ q n, q (-1) σ → C q (n + 1) (nI K)) (hC1 : ∀ q n i, i < K → kC i = ((x1.toInt64) <<< ((32 : Int32).toInt64 &&& 63)) ||| ((x2.toInt64) &&& 4294967295) → q (pC i) σ → C q (n + 1) (nI i)) (hC2 : ∀ q n i, i < K → ¬ kC i = ((x1.toInt64) <<< ((32 : Int32).toInt64 &&& 63)) ||| ((x2.toInt64) &&& 4294967295) → C q n (nI (i + 1)) → C q (n + 1) (nI i))
    (t1 : τ.1 17 = nI K) (t2 : τ.2.2.2 12 = kR) (t3 : τ.2.1 13 = pR) (k : Nat) : ∀ i, i + k = K → ∃ r, (∀ q, q r σ → C q (k + 1) (nI i)) ∧ (∀ q : Int32 → SS → Prop, q r τ → f_R_label_7 q (k + 1) τ x1 x2 (nI i)) := by
  induction k with
  | zero =>
    intro i hi
    refine ⟨-1, fun q z => ?_, fun q z => ?_⟩
    · rw [show i = K by omega]; exact hC0 q 0 z
    · rw [f_R_label_7]
      refine b_t ?_ z
      rw [t1, q_le (by omega) (by omega)]; omega
  | succ k ih =>
    intro i hi
    obtain ⟨⟨cs, c1, c2, c3⟩, c4⟩ := hx i (by omega)
    have hl := lab_cmp c1 x1 x2
    have c3' : τ.2.2.2 12 i = jI (nameR 0 cs) := by rw [t2]; exact c3
    have rr : ∀ (q : Int32 → SS → Prop), ((((jI (nameR 0 cs) <<< ((8 * (6 - nI cs.length)).toInt64 &&& 63)) >>> ((16 : Int32).toInt64 &&& 63)).toInt32) = x1 ∧ (((((jI (nameR 0 cs) <<< ((8 * (6 - nI cs.length)).toInt64 &&& 63)) &&& 65535).toInt32) <<< ((16 : Int32) &&& 31)) = x2) → q (pR i) τ) → (¬ ((((jI (nameR 0 cs) <<< ((8 * (6 - nI cs.length)).toInt64 &&& 63)) >>> ((16 : Int32).toInt64 &&& 63)).toInt32) = x1 ∧ (((((jI (nameR 0 cs) <<< ((8 * (6 - nI cs.length)).toInt64 &&& 63)) &&& 65535).toInt32) <<< ((16 : Int32) &&& 31)) = x2)) → f_R_label_7 q (k + 1) τ x1 x2 (nI (i + 1))) → f_R_label_7 q (k + 1 + 1) τ x1 x2 (nI i) := by
      intro q z1 z2
      rw [f_R_label_7]
      refine b_f (by rw [t1, q_le (by omega) (by omega)]; omega) ⟨by rw [q_in (by omega)]; omega, by rw [q_in (by omega)]; omega, ?_⟩
      rw [q_cl (by omega), c3']
      refine r_size c1 ?_
      have e70 : f_R_label_70 q (f_R_label_7 q (k + 1)) τ x1 x2 (nI i) = f_R_label_7 q (k + 1) τ x1 x2 (nI (i + 1)) := by
        simp only [f_R_label_70, nm, q_lit, q_add]
      refine b_c (fun y1 => b_c (fun y2 => ?_) (fun y2 => ?_)) (fun y1 => ?_)
      · refine ⟨by rw [q_in (by omega)]; omega, ?_⟩
        rw [t3]
        exact z1 ⟨y1, y2⟩
      · rw [e70]; exact z2 (fun z => y2 z.2)
      · rw [e70]; exact z2 (fun z => y1 z.1)
    by_cases hc : kC i = ((x1.toInt64) <<< ((32 : Int32).toInt64 &&& 63)) ||| ((x2.toInt64) &&& 4294967295)
    · have hr := hl.mp (c2.symm.trans hc)
      exact ⟨pC i, fun q z => hC1 q _ i (by omega) hc z, fun q z => rr q (fun _ => c4 ▸ z) (fun n => absurd hr n)⟩
    · have hr : ¬ _ := fun z => hc (c2.trans (hl.mpr z))
      obtain ⟨r, a1, a2⟩ := ih (i + 1) (by omega)
      exact ⟨r, fun q z => hC2 q _ i (by omega) hc (a1 q z), fun q z => rr q (fun n => absurd n hr) (fun _ => a2 q z)⟩
theorem pt_label (j : Nat) : PT_label (RelJ j) (RelJ (j + 1)) := by
  intro σ τ x1 x2 hR
  have hR := RelJ_mono j σ τ hR
  obtain ⟨_, _, _, _, _, _, _, _, _, _, hk, _⟩ := id hR
  rcases hk with ⟨b1, b2, ⟨K, hK, k1, k2, k3⟩⟩ | ⟨b1, b2, ⟨K, hK, k1, k2, k3⟩⟩
  · obtain ⟨r, a1, a2⟩ := s_lab (σ := σ) (τ := sI τ 29 0) (C := fun q n i => f_L_find_14_2 q n σ (((x1.toInt64) <<< ((32 : Int32).toInt64 &&& 63)) ||| ((x2.toInt64) &&& 4294967295)) i) hK k3 x1 x2
      (fun q n z => by rw [f_L_find_14_2]; exact b_t (by rw [k1, q_le (by omega) (by omega)]; omega) z)
      (fun q n i hi hc z => by
        rw [f_L_find_14_2]
        refine b_f (by rw [k1, q_le (by omega) (by omega)]; omega) ⟨by rw [q_in (by omega)]; omega, ?_⟩
        rw [q_cl (by omega)]
        exact b_t ((lg_cmp_eq _ _).mpr hc) ⟨by rw [q_in (by omega)]; omega, z⟩)
      (fun q n i hi hc z => by
        rw [f_L_find_14_2]
        refine b_f (by rw [k1, q_le (by omega) (by omega)]; omega) ⟨by rw [q_in (by omega)]; omega, ?_⟩
        rw [q_cl (by omega)]
        refine b_f (fun y => hc ((lg_cmp_eq _ _).mp y)) ?_
        simp only [nm, q_lit, q_add]
        exact z)
      k2 rfl rfl K 0 (by omega)
    have hh : f_R_label (fun b9 v => r = b9 ∧ RelJ (j + 1) σ v) τ x1 x2 := ⟨K + 1, a2 _ ⟨rfl, hR⟩⟩
    exact b_t b1 ⟨K + 1, a1 _ hh⟩
  · obtain ⟨r, a1, a2⟩ := s_lab (σ := σ) (τ := sI τ 29 0) (C := fun q n i => f_L_find_17_2 q n σ (((x1.toInt64) <<< ((32 : Int32).toInt64 &&& 63)) ||| ((x2.toInt64) &&& 4294967295)) i) hK k3 x1 x2
      (fun q n z => by rw [f_L_find_17_2]; exact b_t (by rw [k1, q_le (by omega) (by omega)]; omega) z)
      (fun q n i hi hc z => by
        rw [f_L_find_17_2]
        refine b_f (by rw [k1, q_le (by omega) (by omega)]; omega) ⟨by rw [q_in (by omega)]; omega, ?_⟩
        rw [q_cl (by omega)]
        exact b_t ((lg_cmp_eq _ _).mpr hc) ⟨by rw [q_in (by omega)]; omega, z⟩)
      (fun q n i hi hc z => by
        rw [f_L_find_17_2]
        refine b_f (by rw [k1, q_le (by omega) (by omega)]; omega) ⟨by rw [q_in (by omega)]; omega, ?_⟩
        rw [q_cl (by omega)]
        refine b_f (fun y => hc ((lg_cmp_eq _ _).mp y)) ?_
        simp only [nm, q_lit, q_add]
        exact z)
      k2 rfl rfl K 0 (by omega)
    have hh : f_R_label (fun b9 v => r = b9 ∧ RelJ (j + 1) σ v) τ x1 x2 := ⟨K + 1, a2 _ ⟨rfl, hR⟩⟩
    exact b_f (by rw [b1]; decide) ⟨K + 1, a1 _ hh⟩
