/-! the pure side: numbers in a normal form -/
theorem q_lit (m : Nat) : (@OfNat.ofNat Int32 m Int32.instOfNat) = nI (@OfNat.ofNat Nat m (instOfNatNat m)) := rfl
theorem q_add (a b : Nat) : nI a + nI b = nI (a + b) := nI_add a b
theorem q_sub {a b : Nat} (h : b ≤ a) : nI a - nI b = nI (a - b) := (Int32.ofNat_sub a b h).symm
theorem q_mul (a b : Nat) : nI a * nI b = nI (a * b) := (Int32.ofNat_mul a b).symm
theorem q_div {a b : Nat} (ha : a < 2147483648) (hb : b < 2147483648) : nI a / nI b = nI (a / b) := (Int32.ofNat_div ha hb).symm
theorem q_nm (a b : Nat) : a - a / b * b = a % b := by
  have h := Nat.div_add_mod a b
  rw [Nat.mul_comm] at h
  omega
theorem q_and (a b : Nat) : nI a &&& nI b = nI (a &&& b) := Int32.toBitVec_inj.1 (BitVec.ofNat_and (w := 32) (x := a) (y := b)).symm
theorem q_or (a b : Nat) : nI a ||| nI b = nI (a ||| b) := Int32.toBitVec_inj.1 (BitVec.ofNat_or (w := 32) (x := a) (y := b)).symm
theorem q_xor (a b : Nat) : nI a ^^^ nI b = nI (a ^^^ b) := Int32.toBitVec_inj.1 (BitVec.ofNat_xor (w := 32) (x := a) (y := b)).symm
theorem q_sm : ∀ n, n < 32 → ((nI n).toBitVec.smod 32).toNat = n := by decide +kernel
theorem q_shr {a k : Nat} (ha : a < 2147483648) (hk : k < 32) : nI a >>> nI k = nI (a / 2 ^ k) := by
  apply Int32.toBitVec_inj.1
  rw [Int32.toBitVec_shiftRight]
  show (BitVec.ofNat 32 a).sshiftRight ((nI k).toBitVec.smod 32).toNat = BitVec.ofNat 32 (a / 2 ^ k)
  rw [q_sm k hk]
  have hm : (BitVec.ofNat 32 a).msb = false := by
    rw [BitVec.msb_eq_false_iff_two_mul_lt, BitVec.toNat_ofNat, Nat.mod_eq_of_lt (by omega)]
    omega
  rw [BitVec.sshiftRight_eq_of_msb_false hm]
  apply BitVec.eq_of_toNat_eq
  have h2 : a / 2 ^ k ≤ a := Nat.div_le_self _ _
  rw [BitVec.toNat_ushiftRight, BitVec.toNat_ofNat, BitVec.toNat_ofNat, Nat.mod_eq_of_lt (by omega), Nat.mod_eq_of_lt (by omega), Nat.shiftRight_eq_div_pow]
theorem q_shl {a k : Nat} (hk : k < 32) : nI a <<< nI k = nI (a * 2 ^ k) := by
  apply Int32.toBitVec_inj.1
  rw [Int32.toBitVec_shiftLeft]
  show (BitVec.ofNat 32 a) <<< ((nI k).toBitVec.smod 32).toNat = BitVec.ofNat 32 (a * 2 ^ k)
  rw [q_sm k hk]
  apply BitVec.eq_of_toNat_eq
  rw [BitVec.toNat_shiftLeft, BitVec.toNat_ofNat, BitVec.toNat_ofNat, Nat.shiftLeft_eq, Nat.mod_mul_mod]
theorem q_lt {a b : Nat} (ha : a < 2147483648) (hb : b < 2147483648) : (nI a < nI b) = (a < b) := propext (nI_ltI ha hb)
theorem q_le {a b : Nat} (ha : a < 2147483648) (hb : b < 2147483648) : (nI a ≤ nI b) = (a ≤ b) := propext (nI_leI ha hb)
theorem q_eq {a b : Nat} (ha : a < 4294967296) (hb : b < 4294967296) : (nI a = nI b) = (a = b) := by
  apply propext
  rw [← Int32.toBitVec_inj]
  show BitVec.ofNat 32 a = BitVec.ofNat 32 b ↔ _
  rw [← BitVec.toNat_inj, BitVec.toNat_ofNat, BitVec.toNat_ofNat, Nat.mod_eq_of_lt (by omega), Nat.mod_eq_of_lt (by omega)]
theorem q_in {i L : Nat} (hi : i < 2147483648) : vp_in (nI i) L = (i < L) := by
  apply propext
  rw [vp_in_iff, nI_toInt hi]
  omega
theorem q_cl {n : Nat} (h : n < 2147483648) : (nI n).toNatClampNeg = n := nI_clamp h
theorem q_n1 : -nI 1 = nI 4294967295 := by decide
theorem q_subN {a b : Nat} (h : a < b) (hb : b ≤ 4294967296) : nI a - nI b = nI (a + 4294967296 - b) := by
  have e : nI (a + 4294967296) = nI a := by
    show Int32.ofNat (a + 4294967296) = Int32.ofNat a
    rw [Int32.ofNat_add]
    show Int32.ofNat a + 0 = Int32.ofNat a
    exact Int32.add_zero _
  rw [← q_sub (a := a + 4294967296) (b := b) (by omega), e]
theorem q_a1 (a : Nat) : a &&& 1 = a % 2 := Nat.and_two_pow_sub_one_eq_mod a 1
theorem q_a3 (a : Nat) : a &&& 3 = a % 4 := Nat.and_two_pow_sub_one_eq_mod a 2
theorem q_a7 (a : Nat) : a &&& 7 = a % 8 := Nat.and_two_pow_sub_one_eq_mod a 3
theorem q_a31 (a : Nat) : a &&& 31 = a % 32 := Nat.and_two_pow_sub_one_eq_mod a 5
theorem q_a63 (a : Nat) : a &&& 63 = a % 64 := Nat.and_two_pow_sub_one_eq_mod a 6
theorem q_a255 (a : Nat) : a &&& 255 = a % 256 := Nat.and_two_pow_sub_one_eq_mod a 8
theorem q_a15 (a : Nat) : a &&& 32767 = a % 32768 := Nat.and_two_pow_sub_one_eq_mod a 15
theorem q_a16 (a : Nat) : a &&& 65535 = a % 65536 := Nat.and_two_pow_sub_one_eq_mod a 16
theorem q_a17 (a : Nat) : a &&& 131071 = a % 131072 := Nat.and_two_pow_sub_one_eq_mod a 17
theorem q_bit (a k : Nat) : a &&& 2 ^ k = a / 2 ^ k % 2 * 2 ^ k := by
  apply Nat.eq_of_testBit_eq
  intro i
  rw [Nat.testBit_and, Nat.testBit_two_pow, Nat.testBit_mul_two_pow]
  rcases Nat.lt_trichotomy i k with h | h | h
  · have : ¬ k = i := by omega
    have h2 : ¬ i ≥ k := by omega
    simp [this, h2]
  · subst h
    simp only [ge_iff_le, Nat.le_refl, decide_true, Nat.sub_self, Bool.true_and, Bool.and_true]
    rw [Nat.testBit_zero, Nat.mod_mod, Nat.testBit_eq_decide_div_mod_eq]
  · have h1 : ¬ k = i := by omega
    obtain ⟨d, rfl⟩ : ∃ d, i = k + d + 1 := ⟨i - k - 1, by omega⟩
    have h3 : k + d + 1 - k = d + 1 := by omega
    simp only [h1, decide_false, Bool.and_false, h3, Nat.testBit_succ]
    have : a / 2 ^ k % 2 / 2 = 0 := by omega
    rw [this, Nat.zero_testBit, Bool.and_false]
theorem q_a8 (a : Nat) : a &&& 8 = a / 8 % 2 * 8 := q_bit a 3
theorem q_a2 (a : Nat) : a &&& 2 = a / 2 % 2 * 2 := q_bit a 1
theorem q_a4 (a : Nat) : a &&& 4 = a / 4 % 2 * 4 := q_bit a 2
theorem q_a1024 (a : Nat) : a &&& 1024 = a / 1024 % 2 * 1024 := q_bit a 10
theorem q_a65536 (a : Nat) : a &&& 65536 = a / 65536 % 2 * 65536 := q_bit a 16
/-- a branch -/
theorem b_t {c A B : Prop} (h : c) (a : A) : br c A B := ⟨fun _ => a, fun z => absurd h z⟩
theorem b_f {c A B : Prop} (h : ¬ c) (b : B) : br c A B := ⟨fun z => absurd z h, fun _ => b⟩
theorem b_c {c A B : Prop} (a : c → A) (b : ¬ c → B) : br c A B := ⟨a, b⟩
theorem b_T {A B : Prop} : br True A B = A := propext ⟨fun h => h.1 trivial, fun h => ⟨fun _ => h, fun z => absurd trivial z⟩⟩
theorem b_F {A B : Prop} : br False A B = B := propext ⟨fun h => h.2 id, fun h => ⟨fun z => z.elim, fun _ => h⟩⟩
/-- a method comes to an answer and a state -/
def To {α : Type} (F : (α → SS → Prop) → Prop) (r : α) (u : SS) : Prop := ∀ post : α → SS → Prop, post r u → F post
def ToV (F : (SS → Prop) → Prop) (u : SS) : Prop := ∀ post : SS → Prop, post u → F post
/-- a word: 16 bits -/
def W16 (x : Int32) : Prop := ∃ n, n < 65536 ∧ x = nI n
theorem sI_1 (σ : SS) (k : Nat) (v : Int32) (j : Nat) : (sI σ k v).1 j = if j = k then v else σ.1 j := by
  unfold sI upd; rfl
theorem sI_2 (σ : SS) (k : Nat) (v : Int32) : (sI σ k v).2 = σ.2 := rfl
theorem sA_1 (σ : SS) (k i : Nat) (v : Int32) : (sA σ k i v).1 = σ.1 := rfl
theorem sA_2 (σ : SS) (k i : Nat) (v : Int32) (j : Nat) : (sA σ k i v).2.1 j = if j = k then upd (σ.2.1 k) i v else σ.2.1 j := rfl
theorem sA_3 (σ : SS) (k i : Nat) (v : Int32) : (sA σ k i v).2.2 = σ.2.2 := rfl
theorem sB_1 (σ : SS) (k i : Nat) (v : Int64) : (sB σ k i v).1 = σ.1 := rfl
theorem sB_2 (σ : SS) (k i : Nat) (v : Int64) : (sB σ k i v).2.1 = σ.2.1 := rfl
theorem sB_3 (σ : SS) (k i : Nat) (v : Int64) : (sB σ k i v).2.2.1 = σ.2.2.1 := rfl
theorem sB_4 (σ : SS) (k i : Nat) (v : Int64) (j : Nat) : (sB σ k i v).2.2.2 j = if j = k then vp_updL (σ.2.2.2 k) i v else σ.2.2.2 j := rfl
theorem sL_1 (σ : SS) (k : Nat) (v : Int64) : (sL σ k v).1 = σ.1 := rfl
theorem sL_2 (σ : SS) (k : Nat) (v : Int64) : (sL σ k v).2.1 = σ.2.1 := rfl
theorem sL_3 (σ : SS) (k : Nat) (v : Int64) : (sL σ k v).2.2.1 = vp_updL σ.2.2.1 k v := rfl
theorem sL_4 (σ : SS) (k : Nat) (v : Int64) : (sL σ k v).2.2.2 = σ.2.2.2 := rfl
theorem u_at (f : Nat → Int32) (i : Nat) (v : Int32) (j : Nat) : upd f i v j = if j = i then v else f j := by
  unfold upd; rfl
theorem q_ltT {a b : Nat} (h : a < b) (hb : b < 2147483648) : (nI a < nI b) = True := eq_true (nI_lt h hb)
theorem q_ltF {a b : Nat} (h : b ≤ a) (ha : a < 2147483648) : (nI a < nI b) = False := eq_false (nI_nlt h ha)
theorem q_leT {a b : Nat} (h : a ≤ b) (hb : b < 2147483648) : (nI a ≤ nI b) = True := eq_true (nI_le h hb)
theorem q_leF {a b : Nat} (h : b < a) (ha : a < 2147483648) : (nI a ≤ nI b) = False := eq_false (nI_ge h ha)
theorem q_eqT {a b : Nat} (h : a = b) : (nI a = nI b) = True := eq_true (by rw [h])
theorem q_eqF {a b : Nat} (h : a ≠ b) (ha : a < 4294967296) (hb : b < 4294967296) : (nI a = nI b) = False := eq_false (fun z => h ((q_eq ha hb).mp z))
theorem q_inT {i L : Nat} (h : i < L) (hL : i < 2147483648) : vp_in (nI i) L = True := eq_true (by rw [q_in hL]; exact h)
theorem b_True {c A B : Prop} (h : c = True) : br c A B = A := by subst h; exact b_T
theorem q_bz0 : bz (nI 0) = True := eq_true (Or.inl rfl)
theorem q_bz1 : bz (nI 1) = True := eq_true (Or.inr rfl)
