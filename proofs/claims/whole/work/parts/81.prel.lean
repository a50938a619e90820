/-! the pure side: class's states beside the reference's -/
def RMem (σ τ : SS) : Prop := σ.2.1 2 = τ.2.1 1 ∧ (∀ j, W16 (σ.2.1 2 j)) ∧ σ.2.1 3 = τ.2.1 2 ∧ (∀ j, W16 (σ.2.1 3 j))
def RReg (σ τ : SS) : Prop := σ.1 0 = τ.1 0 ∧ bz (σ.1 0) ∧ σ.1 2 = τ.1 2 ∧ W16 (σ.1 2) ∧ σ.1 3 = τ.1 5 ∧ (∃ n, n < 8 ∧ σ.1 3 = nI n) ∧ σ.1 4 = τ.1 3 ∧ bz (σ.1 4) ∧ σ.1 7 = τ.1 7 ∧ σ.1 8 = τ.1 11
def RPc (σ τ : SS) : Prop := σ.1 1 = τ.1 1 ∧ ∃ n, n < 32768 ∧ σ.1 1 = nI n
def RLet (σ τ : SS) : Prop := σ.1 5 = τ.1 4 ∧ bz (σ.1 5)
def RIns (σ τ : SS) : Prop := σ.1 6 = τ.1 6
def RDv (h b d t : Int32) (h' b' d' t' : Int32) : Prop := h = h' ∧ W16 h ∧ b = b' ∧ bz b ∧ d = d' ∧ bz d ∧ (b ≠ 0 → t = t')
def RDev (σ τ : SS) : Prop := RDv (σ.1 9) (σ.1 10) (σ.1 11) (σ.1 12) (τ.2.1 3 0) (τ.2.1 4 0) (τ.2.1 5 0) (τ.2.1 6 0) ∧ RDv (σ.1 15) (σ.1 16) (σ.1 17) (σ.1 18) (τ.2.1 3 1) (τ.2.1 4 1) (τ.2.1 5 1) (τ.2.1 6 1) ∧ RDv (σ.1 20) (σ.1 21) (σ.1 22) (σ.1 23) (τ.2.1 3 2) (τ.2.1 4 2) (τ.2.1 5 2) (τ.2.1 6 2)
def RTape (σ τ : SS) : Prop := ∃ h w, h < 500 ∧ w ≤ 500 ∧ σ.1 13 = nI h ∧ σ.1 14 = nI w ∧ τ.1 9 = nI w ∧ ∀ i, i < w → σ.2.1 5 ((h + i) % 500) = τ.2.1 7 i ∧ W16 (τ.2.1 7 i)
def RPap (B : Nat) (σ τ : SS) : Prop := ∃ c, c ≤ B ∧ σ.1 19 = nI c ∧ τ.1 10 = nI c ∧ σ.2.1 7 = τ.2.1 8
/-- a character of the text as the reference keeps it -/
def by8 (c : Nat) : Int32 := (nI c).toInt8.toInt32
def RText (σ τ : SS) : Prop := ∃ n, n ≤ 6000 ∧ σ.1 34 = nI n ∧ τ.1 12 = nI n ∧ ∀ i, i < n → ∃ c, c < 256 ∧ σ.2.1 12 i = nI c ∧ τ.2.1 9 i = by8 c
def RFlt (σ τ : SS) : Prop := σ.1 32 = τ.1 13 ∧ σ.1 33 = τ.1 14
/-- a name of one to six letters: as the class packs it, as the reference does -/
def nameC : List Nat → Nat
  | [] => 0
  | c :: r => c * 72057594037927936 + nameC r / 256
def nameR (a : Nat) : List Nat → Nat
  | [] => a
  | c :: r => nameR (a * 256 + c) r
def isL (c : Nat) : Prop := (65 ≤ c ∧ c ≤ 90) ∨ c = 46 ∨ (48 ≤ c ∧ c ≤ 57)
def isN (cs : List Nat) : Prop := 0 < cs.length ∧ cs.length ≤ 6 ∧ ∀ c ∈ cs, isL c
def RLab (n : Int32) (kC : Nat → Int64) (pC : Nat → Int32) (m : Int32) (kR : Nat → Int64) (pR : Nat → Int32) : Prop := ∃ k, k ≤ 200 ∧ n = nI k ∧ m = nI k ∧ ∀ i, i < k → (∃ cs, isN cs ∧ kC i = Int64.ofNat (nameC cs) ∧ kR i = Int64.ofNat (nameR 0 cs)) ∧ pC i = pR i
def RKept (σ τ : SS) : Prop := (σ.1 24 = 0 ∧ σ.1 25 = 1 ∧ RLab (σ.1 37) (σ.2.2.2 15) (σ.2.1 16) (τ.1 17) (τ.2.2.2 12) (τ.2.1 13)) ∨ (σ.1 24 = 1 ∧ σ.1 25 = 0 ∧ RLab (σ.1 38) (σ.2.2.2 18) (σ.2.1 19) (τ.1 17) (τ.2.2.2 12) (τ.2.1 13))
def RTell (σ τ : SS) : Prop := ∃ t, t ≤ 32 ∧ σ.1 39 = nI t ∧ τ.1 28 = nI t ∧ ∀ i, i < t → σ.2.1 24 i = τ.2.1 18 i
def RelB (B : Nat) (σ τ : SS) : Prop := RMem σ τ ∧ RReg σ τ ∧ RPc σ τ ∧ RLet σ τ ∧ RIns σ τ ∧ RDev σ τ ∧ RTape σ τ ∧ RPap B σ τ ∧ RText σ τ ∧ RFlt σ τ ∧ RKept σ τ ∧ RTell σ τ
def RelJ (j : Nat) (σ τ : SS) : Prop := RelB (5000 * j) σ τ
theorem RelB_mono {B B' : Nat} (h : B ≤ B') {σ τ : SS} (hR : RelB B σ τ) : RelB B' σ τ := by
  obtain ⟨h1, h2, h3, h4, h5, h6, h7, ⟨c, hc, h8⟩, h9⟩ := hR
  exact ⟨h1, h2, h3, h4, h5, h6, h7, ⟨c, Nat.le_trans hc h, h8⟩, h9⟩
theorem RelJ_mono (j : Nat) (σ τ : SS) (h : RelJ j σ τ) : RelJ (j + 1) σ τ := RelB_mono (by omega) h
/-- what the reference threw last is no part of it -/
theorem RelB_thr {B : Nat} {σ τ : SS} (v : Int32) (hR : RelB B σ τ) : RelB B σ (sI τ 29 v) := hR
theorem c0_31 {x : Int32} (h : ¬ x < 0) {m : Nat} (hm : m < 2147483648) (h2 : ¬ nI m < x) : ∃ n, n ≤ m ∧ x = nI n := by
  obtain ⟨n, hn, rfl⟩ := nI_of h
  rw [q_lt (by omega) (by omega)] at h2
  exact ⟨n, by omega, rfl⟩
