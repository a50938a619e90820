/-! the pure side: classify, whole -/
def srN (t : Nat) : Nat := ([1, 2, 3, 3, 3, 3, 4, 4, 5, 5, 5, 5, 5, 5, 5, 5, 8, 8, 8, 8, 9, 9, 9, 6, 7, 7, 7, 7, 7, 7, 6, 6, 6, 6, 0] : List Nat).getD t 0
def bsN (t : Nat) (cs : List Nat) : Nat := if t < 2 ∨ t = 34 then 0 else bitN t + fbN t cs
section CLS
variable {cs : List Nat} {τ : SS} {s b : Nat} {post : SS → Prop}
theorem p181 (h : isN cs) (h38 : cs ≠ tx 38) (hp : post (sS τ s b)) : f_R_classify_181 post (sS τ s b) (jI (nameR 0 cs)) := r_eqb h (tx_N 38 (by omega) (by omega)) nt_38 (fun z => absurd z h38) (fun _ => hp)
theorem p164 (h : isN cs) (h37 : cs ≠ tx 37) (h38 : cs ≠ tx 38) (hp : post (sS τ s b)) : f_R_classify_164 post (sS τ s b) (jI (nameR 0 cs)) := r_eqb h (tx_N 37 (by omega) (by omega)) nt_37 (fun z => absurd z h37) (fun _ => p181 h h38 hp)
theorem p147 (h : isN cs) (h34 : cs ≠ tx 34) (h37 : cs ≠ tx 37) (h38 : cs ≠ tx 38) (hp : post (sS τ s b)) : f_R_classify_147 post (sS τ s b) (jI (nameR 0 cs)) := r_eqb h (tx_N 34 (by omega) (by omega)) nt_34 (fun z => absurd z h34) (fun _ => p164 h h37 h38 hp)
theorem p67 (h : isN cs) (h46 : cs ≠ tx 46) (h47 : cs ≠ tx 47) (h48 : cs ≠ tx 48) (h49 : cs ≠ tx 49) (hp : post (sS τ s b)) : f_R_special_67 post (sS τ s b) (jI (nameR 0 cs)) := by
  simp only [f_R_special_67]
  exact r_among4 h (tx_N 46 (by omega) (by omega)) (tx_N 47 (by omega) (by omega)) (tx_N 48 (by omega) (by omega)) (tx_N 49 (by omega) (by omega)) nt_46 nt_47 nt_48 nt_49 (fun z => absurd z h46) (fun _ z => absurd z h47) (fun _ _ z => absurd z h48) (fun _ _ _ z => absurd z h49) (fun _ _ _ _ => b_f (by decide) hp)
theorem p50 (h : isN cs) (h36 : cs ≠ tx 36) (h46 : cs ≠ tx 46) (h47 : cs ≠ tx 47) (h48 : cs ≠ tx 48) (h49 : cs ≠ tx 49) (hp : post (sS τ s b)) : f_R_special_50 post (sS τ s b) (jI (nameR 0 cs)) := r_eqb h (tx_N 36 (by omega) (by omega)) nt_36 (fun z => absurd z h36) (fun _ => p67 h h46 h47 h48 h49 hp)
theorem p33 (h : isN cs) (h35 : cs ≠ tx 35) (h36 : cs ≠ tx 36) (h46 : cs ≠ tx 46) (h47 : cs ≠ tx 47) (h48 : cs ≠ tx 48) (h49 : cs ≠ tx 49) (hp : post (sS τ s b)) : f_R_special_33 post (sS τ s b) (jI (nameR 0 cs)) := r_eqb h (tx_N 35 (by omega) (by omega)) nt_35 (fun z => absurd z h35) (fun _ => p50 h h36 h46 h47 h48 h49 hp)
theorem p16 (h : isN cs) (h33 : cs ≠ tx 33) (h35 : cs ≠ tx 35) (h36 : cs ≠ tx 36) (h46 : cs ≠ tx 46) (h47 : cs ≠ tx 47) (h48 : cs ≠ tx 48) (h49 : cs ≠ tx 49) (hp : post (sS τ s b)) : f_R_special_16 post (sS τ s b) (jI (nameR 0 cs)) := r_eqb h (tx_N 33 (by omega) (by omega)) nt_33 (fun z => absurd z h33) (fun _ => p33 h h35 h36 h46 h47 h48 h49 hp)
def n5 (cs : List Nat) : Prop := cs ≠ tx 32 ∧ cs ≠ tx 33 ∧ cs ≠ tx 35 ∧ cs ≠ tx 36 ∧ cs ≠ tx 46 ∧ cs ≠ tx 47 ∧ cs ≠ tx 48 ∧ cs ≠ tx 49
def n4 (cs : List Nat) : Prop := cs ≠ tx 34 ∧ cs ≠ tx 37 ∧ cs ≠ tx 38
theorem p137 (h : isN cs) (hs : n5 cs) (ht : n4 cs) (hp : post (sS τ s b)) : f_R_classify_137 post (sS τ s b) (jI (nameR 0 cs)) (nI cs.length) := by
  obtain ⟨h32, h33, h35, h36, h46, h47, h48, h49⟩ := hs
  obtain ⟨h34, h37, h38⟩ := ht
  have q := p147 h h34 h37 h38 hp
  refine b_c (fun _ => ?_) (fun _ => q)
  exact r_eqb h (tx_N 32 (by omega) (by omega)) nt_32 (fun z => absurd z h32) (fun _ => p16 h h33 h35 h36 h46 h47 h48 h49 q)
theorem p121 (h : isN cs) (hs : n5 cs) (ht : n4 cs) (hp : post (if 3 ≤ cs.length ∧ cs.length ≤ 5 ∧ (sufR cs).1 ≠ 0 then sS τ (sufR cs).1 (sufR cs).2 else sS τ s b)) : f_R_classify_121 post (sS τ s b) (jI (nameR 0 cs)) (nI cs.length) := by
  have h6 := h.2.1
  simp only [f_R_classify_121]
  by_cases c3 : cs.length < 3
  · rw [if_neg (by omega)] at hp
    exact b_t (by rw [q_lit, q_lt (by omega) (by omega)]; exact c3) (p137 h hs ht hp)
  refine b_f (by rw [q_lit, q_lt (by omega) (by omega)]; exact c3) ?_
  by_cases c5 : 5 < cs.length
  · rw [if_neg (by omega)] at hp
    exact b_t (by rw [q_lit, q_lt (by omega) (by omega)]; exact c5) (p137 h hs ht hp)
  refine b_f (by rw [q_lit, q_lt (by omega) (by omega)]; exact c5) (r_sufx h (by omega) (by omega) ?_)
  by_cases z : (sufR cs).1 = 0
  · rw [if_neg (by omega)] at hp
    rw [if_pos z]
    exact p137 h hs ht hp
  · rw [if_pos ⟨by omega, by omega, z⟩] at hp
    rw [if_neg z]
    exact p137 h hs ht hp
theorem p79 (h : isN cs) (h22 : cs ≠ tx 22) (h23 : cs ≠ tx 23) (hs : n5 cs) (ht : n4 cs) (hp : post (if 3 ≤ cs.length ∧ cs.length ≤ 5 ∧ (sufR cs).1 ≠ 0 then sS τ (sufR cs).1 (sufR cs).2 else sS τ s b)) : f_R_classify_79 post (sS τ s b) (jI (nameR 0 cs)) (nI cs.length) := r_eqb h (tx_N 22 (by omega) (by omega)) nt_22 (fun z => absurd z h22) (fun _ => r_eqb h (tx_N 23 (by omega) (by omega)) nt_23 (fun z => absurd z h23) (fun _ => p121 h hs ht hp))
def n3 (cs : List Nat) : Prop := cs ≠ tx 18 ∧ cs ≠ tx 19 ∧ cs ≠ tx 20 ∧ cs ≠ tx 21
theorem p41 (h : isN cs) (hj : n3 cs) (h22 : cs ≠ tx 22) (h23 : cs ≠ tx 23) (hs : n5 cs) (ht : n4 cs) (hp : post (if 3 ≤ cs.length ∧ cs.length ≤ 5 ∧ (sufR cs).1 ≠ 0 then sS τ (sufR cs).1 (sufR cs).2 else sS τ s b)) : f_R_classify_41 post (sS τ s b) (jI (nameR 0 cs)) (nI cs.length) := by
  obtain ⟨h18, h19, h20, h21⟩ := hj
  simp only [f_R_classify_41]
  exact r_among4 h (tx_N 18 (by omega) (by omega)) (tx_N 19 (by omega) (by omega)) (tx_N 20 (by omega) (by omega)) (tx_N 21 (by omega) (by omega)) nt_18 nt_19 nt_20 nt_21 (fun z => absurd z h18) (fun _ z => absurd z h19) (fun _ _ z => absurd z h20) (fun _ _ _ z => absurd z h21) (fun _ _ _ _ => b_t (by decide) (p79 h h22 h23 hs ht hp))
theorem nt_16 : (776752963 : Int64) = jI (nameR 0 (tx 16)) := by decide +kernel
theorem nt_17 : (776096843 : Int64) = jI (nameR 0 (tx 17)) := by decide +kernel
theorem p28 (h : isN cs) (h17 : cs ≠ tx 17) (hj : n3 cs) (h22 : cs ≠ tx 22) (h23 : cs ≠ tx 23) (hs : n5 cs) (ht : n4 cs) (hp : post (if 3 ≤ cs.length ∧ cs.length ≤ 5 ∧ (sufR cs).1 ≠ 0 then sS τ (sufR cs).1 (sufR cs).2 else sS τ s b)) : f_R_classify_28 post (sS τ s b) (jI (nameR 0 cs)) (nI cs.length) := r_eqb h (tx_N 17 (by omega) (by omega)) nt_17 (fun z => absurd z h17) (fun _ => p41 h hj h22 h23 hs ht hp)
theorem p0 (h : isN cs) (h1 : cs = tx 16 → f_R_classify_28 post (sS τ 1 0) (jI (nameR 0 cs)) (nI cs.length)) (h0 : cs ≠ tx 16 → f_R_classify_28 post (sS τ 0 0) (jI (nameR 0 cs)) (nI cs.length)) : f_R_classify post τ (jI (nameR 0 cs)) := by
  simp only [f_R_classify, nm]
  refine r_size h (r_eqb h (tx_N 16 (by omega) (by omega)) nt_16 (fun z => ?_) (fun z => h0 z))
  have := h1 z
  rw [← sS_26 τ 0 0 1] at this
  exact this
end CLS
theorem k_16 {τ : SS} {post : SS → Prop} (hp : post (sS τ 1 0)) : f_R_classify post τ (jI (nameR 0 (tx 16))) := by
  have hN := tx_N 16 (by omega) (by omega)
  refine p0 hN (fun _ => p28 hN (by decide +kernel) (show n3 (tx 16) from ⟨by decide +kernel, by decide +kernel, by decide +kernel, by decide +kernel⟩) (by decide +kernel) (by decide +kernel) (show n5 (tx 16) from ⟨by decide +kernel, by decide +kernel, by decide +kernel, by decide +kernel, by decide +kernel, by decide +kernel, by decide +kernel, by decide +kernel⟩) (show n4 (tx 16) from ⟨by decide +kernel, by decide +kernel, by decide +kernel⟩) (by rw [if_neg (by decide +kernel)]; exact hp)) (fun z => absurd rfl z)
theorem k_17 {τ : SS} {post : SS → Prop} (hp : post (sS τ 2 0)) : f_R_classify post τ (jI (nameR 0 (tx 17))) := by
  have hN := tx_N 17 (by omega) (by omega)
  refine p0 hN (fun z => absurd z (by decide +kernel)) (fun _ => ?_)
  refine r_eqb hN (tx_N 17 (by omega) (by omega)) nt_17 (fun _ => ?_) (fun z => absurd rfl z)
  simp only [nm]
  rw [show (2 : Int32) = nI 2 from rfl, sS_26]
  exact p41 hN (show n3 (tx 17) from ⟨by decide +kernel, by decide +kernel, by decide +kernel, by decide +kernel⟩) (by decide +kernel) (by decide +kernel) (show n5 (tx 17) from ⟨by decide +kernel, by decide +kernel, by decide +kernel, by decide +kernel, by decide +kernel, by decide +kernel, by decide +kernel, by decide +kernel⟩) (show n4 (tx 17) from ⟨by decide +kernel, by decide +kernel, by decide +kernel⟩) (by rw [if_neg (by decide +kernel)]; exact hp)
theorem k_18 {τ : SS} {post : SS → Prop} (hp : post (sS τ 3 0)) : f_R_classify post τ (jI (nameR 0 (tx 18))) := by
  have hN := tx_N 18 (by omega) (by omega)
  refine p0 hN (fun z => absurd z (by decide +kernel)) (fun _ => ?_)
  refine r_eqb hN (tx_N 17 (by omega) (by omega)) nt_17 (fun z => absurd z (by decide +kernel)) (fun _ => ?_)
  simp only [f_R_classify_41]
  refine r_among4 hN (tx_N 18 (by omega) (by omega)) (tx_N 19 (by omega) (by omega)) (tx_N 20 (by omega) (by omega)) (tx_N 21 (by omega) (by omega)) nt_18 nt_19 nt_20 nt_21 (fun _ => ?_) (fun z0 z1 => absurd rfl z0) (fun z0 z1 z2 => absurd rfl z0) (fun z0 z1 z2 z3 => absurd rfl z0) (fun z0 z1 z2 z3 => absurd rfl z0)
  refine b_f (by decide) ?_
  simp only [nm]
  rw [show (3 : Int32) = nI 3 from rfl, show (2048 * nI 0 : Int32) = nI 0 from by decide, sS_2]
  exact p79 hN (by decide +kernel) (by decide +kernel) (show n5 (tx 18) from ⟨by decide +kernel, by decide +kernel, by decide +kernel, by decide +kernel, by decide +kernel, by decide +kernel, by decide +kernel, by decide +kernel⟩) (show n4 (tx 18) from ⟨by decide +kernel, by decide +kernel, by decide +kernel⟩) (by rw [if_neg (by decide +kernel)]; exact hp)
theorem k_19 {τ : SS} {post : SS → Prop} (hp : post (sS τ 3 2048)) : f_R_classify post τ (jI (nameR 0 (tx 19))) := by
  have hN := tx_N 19 (by omega) (by omega)
  refine p0 hN (fun z => absurd z (by decide +kernel)) (fun _ => ?_)
  refine r_eqb hN (tx_N 17 (by omega) (by omega)) nt_17 (fun z => absurd z (by decide +kernel)) (fun _ => ?_)
  simp only [f_R_classify_41]
  refine r_among4 hN (tx_N 18 (by omega) (by omega)) (tx_N 19 (by omega) (by omega)) (tx_N 20 (by omega) (by omega)) (tx_N 21 (by omega) (by omega)) nt_18 nt_19 nt_20 nt_21 (fun z => absurd z (by decide +kernel)) (fun _ _ => ?_) (fun z0 z1 z2 => absurd rfl z1) (fun z0 z1 z2 z3 => absurd rfl z1) (fun z0 z1 z2 z3 => absurd rfl z1)
  refine b_f (by decide) ?_
  simp only [nm]
  rw [show (3 : Int32) = nI 3 from rfl, show (2048 * nI 1 : Int32) = nI 2048 from by decide, sS_2]
  exact p79 hN (by decide +kernel) (by decide +kernel) (show n5 (tx 19) from ⟨by decide +kernel, by decide +kernel, by decide +kernel, by decide +kernel, by decide +kernel, by decide +kernel, by decide +kernel, by decide +kernel⟩) (show n4 (tx 19) from ⟨by decide +kernel, by decide +kernel, by decide +kernel⟩) (by rw [if_neg (by decide +kernel)]; exact hp)
theorem k_20 {τ : SS} {post : SS → Prop} (hp : post (sS τ 3 4096)) : f_R_classify post τ (jI (nameR 0 (tx 20))) := by
  have hN := tx_N 20 (by omega) (by omega)
  refine p0 hN (fun z => absurd z (by decide +kernel)) (fun _ => ?_)
  refine r_eqb hN (tx_N 17 (by omega) (by omega)) nt_17 (fun z => absurd z (by decide +kernel)) (fun _ => ?_)
  simp only [f_R_classify_41]
  refine r_among4 hN (tx_N 18 (by omega) (by omega)) (tx_N 19 (by omega) (by omega)) (tx_N 20 (by omega) (by omega)) (tx_N 21 (by omega) (by omega)) nt_18 nt_19 nt_20 nt_21 (fun z => absurd z (by decide +kernel)) (fun _ z => absurd z (by decide +kernel)) (fun _ _ _ => ?_) (fun z0 z1 z2 z3 => absurd rfl z2) (fun z0 z1 z2 z3 => absurd rfl z2)
  refine b_f (by decide) ?_
  simp only [nm]
  rw [show (3 : Int32) = nI 3 from rfl, show (2048 * nI 2 : Int32) = nI 4096 from by decide, sS_2]
  exact p79 hN (by decide +kernel) (by decide +kernel) (show n5 (tx 20) from ⟨by decide +kernel, by decide +kernel, by decide +kernel, by decide +kernel, by decide +kernel, by decide +kernel, by decide +kernel, by decide +kernel⟩) (show n4 (tx 20) from ⟨by decide +kernel, by decide +kernel, by decide +kernel⟩) (by rw [if_neg (by decide +kernel)]; exact hp)
theorem k_21 {τ : SS} {post : SS → Prop} (hp : post (sS τ 3 6144)) : f_R_classify post τ (jI (nameR 0 (tx 21))) := by
  have hN := tx_N 21 (by omega) (by omega)
  refine p0 hN (fun z => absurd z (by decide +kernel)) (fun _ => ?_)
  refine r_eqb hN (tx_N 17 (by omega) (by omega)) nt_17 (fun z => absurd z (by decide +kernel)) (fun _ => ?_)
  simp only [f_R_classify_41]
  refine r_among4 hN (tx_N 18 (by omega) (by omega)) (tx_N 19 (by omega) (by omega)) (tx_N 20 (by omega) (by omega)) (tx_N 21 (by omega) (by omega)) nt_18 nt_19 nt_20 nt_21 (fun z => absurd z (by decide +kernel)) (fun _ z => absurd z (by decide +kernel)) (fun _ _ z => absurd z (by decide +kernel)) (fun _ _ _ _ => ?_) (fun z0 z1 z2 z3 => absurd rfl z3)
  refine b_f (by decide) ?_
  simp only [nm]
  rw [show (3 : Int32) = nI 3 from rfl, show (2048 * nI 3 : Int32) = nI 6144 from by decide, sS_2]
  exact p79 hN (by decide +kernel) (by decide +kernel) (show n5 (tx 21) from ⟨by decide +kernel, by decide +kernel, by decide +kernel, by decide +kernel, by decide +kernel, by decide +kernel, by decide +kernel, by decide +kernel⟩) (show n4 (tx 21) from ⟨by decide +kernel, by decide +kernel, by decide +kernel⟩) (by rw [if_neg (by decide +kernel)]; exact hp)
theorem k_22 {τ : SS} {post : SS → Prop} (hp : post (sS τ 4 8192)) : f_R_classify post τ (jI (nameR 0 (tx 22))) := by
  have hN := tx_N 22 (by omega) (by omega)
  refine p0 hN (fun z => absurd z (by decide +kernel)) (fun _ => ?_)
  refine r_eqb hN (tx_N 17 (by omega) (by omega)) nt_17 (fun z => absurd z (by decide +kernel)) (fun _ => ?_)
  simp only [f_R_classify_41]
  refine r_among4 hN (tx_N 18 (by omega) (by omega)) (tx_N 19 (by omega) (by omega)) (tx_N 20 (by omega) (by omega)) (tx_N 21 (by omega) (by omega)) nt_18 nt_19 nt_20 nt_21 (fun z => absurd z (by decide +kernel)) (fun _ z => absurd z (by decide +kernel)) (fun _ _ z => absurd z (by decide +kernel)) (fun _ _ _ z => absurd z (by decide +kernel)) (fun _ _ _ _ => b_t (by decide) ?_)
  refine r_eqb hN (tx_N 22 (by omega) (by omega)) nt_22 (fun _ => ?_) (fun z => absurd rfl z)
  simp only [f_R_classify_95, f_R_classify_118, nm]
  refine r_eqb hN (tx_N 22 (by omega) (by omega)) nt_22 (fun _ => ?_) (fun z => absurd rfl z)
  rw [show (4 : Int32) = nI 4 from rfl, show (8192 : Int32) = nI 8192 from rfl, sS_2]
  exact p121 hN (show n5 (tx 22) from ⟨by decide +kernel, by decide +kernel, by decide +kernel, by decide +kernel, by decide +kernel, by decide +kernel, by decide +kernel, by decide +kernel⟩) (show n4 (tx 22) from ⟨by decide +kernel, by decide +kernel, by decide +kernel⟩) (by rw [if_neg (by decide +kernel)]; exact hp)
theorem k_23 {τ : SS} {post : SS → Prop} (hp : post (sS τ 4 16384)) : f_R_classify post τ (jI (nameR 0 (tx 23))) := by
  have hN := tx_N 23 (by omega) (by omega)
  refine p0 hN (fun z => absurd z (by decide +kernel)) (fun _ => ?_)
  refine r_eqb hN (tx_N 17 (by omega) (by omega)) nt_17 (fun z => absurd z (by decide +kernel)) (fun _ => ?_)
  simp only [f_R_classify_41]
  refine r_among4 hN (tx_N 18 (by omega) (by omega)) (tx_N 19 (by omega) (by omega)) (tx_N 20 (by omega) (by omega)) (tx_N 21 (by omega) (by omega)) nt_18 nt_19 nt_20 nt_21 (fun z => absurd z (by decide +kernel)) (fun _ z => absurd z (by decide +kernel)) (fun _ _ z => absurd z (by decide +kernel)) (fun _ _ _ z => absurd z (by decide +kernel)) (fun _ _ _ _ => b_t (by decide) ?_)
  refine r_eqb hN (tx_N 22 (by omega) (by omega)) nt_22 (fun z => absurd z (by decide +kernel)) (fun _ => r_eqb hN (tx_N 23 (by omega) (by omega)) nt_23 (fun _ => ?_) (fun z => absurd rfl z))
  simp only [f_R_classify_95, f_R_classify_118, nm]
  refine r_eqb hN (tx_N 22 (by omega) (by omega)) nt_22 (fun z => absurd z (by decide +kernel)) (fun _ => ?_)
  rw [show (4 : Int32) = nI 4 from rfl, show (16384 : Int32) = nI 16384 from rfl, sS_2]
  exact p121 hN (show n5 (tx 23) from ⟨by decide +kernel, by decide +kernel, by decide +kernel, by decide +kernel, by decide +kernel, by decide +kernel, by decide +kernel, by decide +kernel⟩) (show n4 (tx 23) from ⟨by decide +kernel, by decide +kernel, by decide +kernel⟩) (by rw [if_neg (by decide +kernel)]; exact hp)
theorem k_32 {τ : SS} {post : SS → Prop} (hp : post (sS τ 8 24703)) : f_R_classify post τ (jI (nameR 0 (tx 32))) := by
  have hN := tx_N 32 (by omega) (by omega)
  refine p0 hN (fun z => absurd z (by decide +kernel)) (fun _ => ?_)
  refine r_eqb hN (tx_N 17 (by omega) (by omega)) nt_17 (fun z => absurd z (by decide +kernel)) (fun _ => ?_)
  simp only [f_R_classify_41]
  refine r_among4 hN (tx_N 18 (by omega) (by omega)) (tx_N 19 (by omega) (by omega)) (tx_N 20 (by omega) (by omega)) (tx_N 21 (by omega) (by omega)) nt_18 nt_19 nt_20 nt_21 (fun z => absurd z (by decide +kernel)) (fun _ z => absurd z (by decide +kernel)) (fun _ _ z => absurd z (by decide +kernel)) (fun _ _ _ z => absurd z (by decide +kernel)) (fun _ _ _ _ => b_t (by decide) ?_)
  refine r_eqb hN (tx_N 22 (by omega) (by omega)) nt_22 (fun z => absurd z (by decide +kernel)) (fun _ => r_eqb hN (tx_N 23 (by omega) (by omega)) nt_23 (fun z => absurd z (by decide +kernel)) (fun _ => ?_))
  simp only [f_R_classify_121]
  refine b_f (by decide +kernel) (b_f (by decide +kernel) (r_sufx hN (by decide +kernel) (by decide +kernel) ?_))
  rw [if_pos (by decide +kernel)]
  simp only [f_R_classify_137]
  refine b_t (by decide +kernel) ?_
  refine r_eqb hN (tx_N 32 (by omega) (by omega)) nt_32 (fun _ => ?_) (fun z => absurd rfl z)
  simp only [f_R_single, nm]
  rw [show (8 : Int32) = nI 8 from rfl, show ((24576 + 64) + 63 : Int32) = nI 24703 from by decide, sS_2]
  exact p16 hN (by decide +kernel) (by decide +kernel) (by decide +kernel) (by decide +kernel) (by decide +kernel) (by decide +kernel) (by decide +kernel) (p147 hN (by decide +kernel) (by decide +kernel) (by decide +kernel) hp)
theorem k_33 {τ : SS} {post : SS → Prop} (hp : post (sS τ 8 24767)) : f_R_classify post τ (jI (nameR 0 (tx 33))) := by
  have hN := tx_N 33 (by omega) (by omega)
  refine p0 hN (fun z => absurd z (by decide +kernel)) (fun _ => ?_)
  refine r_eqb hN (tx_N 17 (by omega) (by omega)) nt_17 (fun z => absurd z (by decide +kernel)) (fun _ => ?_)
  simp only [f_R_classify_41]
  refine r_among4 hN (tx_N 18 (by omega) (by omega)) (tx_N 19 (by omega) (by omega)) (tx_N 20 (by omega) (by omega)) (tx_N 21 (by omega) (by omega)) nt_18 nt_19 nt_20 nt_21 (fun z => absurd z (by decide +kernel)) (fun _ z => absurd z (by decide +kernel)) (fun _ _ z => absurd z (by decide +kernel)) (fun _ _ _ z => absurd z (by decide +kernel)) (fun _ _ _ _ => b_t (by decide) ?_)
  refine r_eqb hN (tx_N 22 (by omega) (by omega)) nt_22 (fun z => absurd z (by decide +kernel)) (fun _ => r_eqb hN (tx_N 23 (by omega) (by omega)) nt_23 (fun z => absurd z (by decide +kernel)) (fun _ => ?_))
  simp only [f_R_classify_121]
  refine b_f (by decide +kernel) (b_f (by decide +kernel) (r_sufx hN (by decide +kernel) (by decide +kernel) ?_))
  rw [if_pos (by decide +kernel)]
  simp only [f_R_classify_137]
  refine b_t (by decide +kernel) ?_
  refine r_eqb hN (tx_N 32 (by omega) (by omega)) nt_32 (fun z => absurd z (by decide +kernel)) (fun _ => ?_)
  refine r_eqb hN (tx_N 33 (by omega) (by omega)) nt_33 (fun _ => ?_) (fun z => absurd rfl z)
  simp only [f_R_single, nm]
  rw [show (8 : Int32) = nI 8 from rfl, show ((24576 + 128) + 63 : Int32) = nI 24767 from by decide, sS_2]
  exact p33 hN (by decide +kernel) (by decide +kernel) (by decide +kernel) (by decide +kernel) (by decide +kernel) (by decide +kernel) (p147 hN (by decide +kernel) (by decide +kernel) (by decide +kernel) hp)
theorem k_34 {τ : SS} {post : SS → Prop} (hp : post (sS τ 8 26175)) : f_R_classify post τ (jI (nameR 0 (tx 34))) := by
  have hN := tx_N 34 (by omega) (by omega)
  refine p0 hN (fun z => absurd z (by decide +kernel)) (fun _ => ?_)
  refine r_eqb hN (tx_N 17 (by omega) (by omega)) nt_17 (fun z => absurd z (by decide +kernel)) (fun _ => ?_)
  simp only [f_R_classify_41]
  refine r_among4 hN (tx_N 18 (by omega) (by omega)) (tx_N 19 (by omega) (by omega)) (tx_N 20 (by omega) (by omega)) (tx_N 21 (by omega) (by omega)) nt_18 nt_19 nt_20 nt_21 (fun z => absurd z (by decide +kernel)) (fun _ z => absurd z (by decide +kernel)) (fun _ _ z => absurd z (by decide +kernel)) (fun _ _ _ z => absurd z (by decide +kernel)) (fun _ _ _ _ => b_t (by decide) ?_)
  refine r_eqb hN (tx_N 22 (by omega) (by omega)) nt_22 (fun z => absurd z (by decide +kernel)) (fun _ => r_eqb hN (tx_N 23 (by omega) (by omega)) nt_23 (fun z => absurd z (by decide +kernel)) (fun _ => ?_))
  simp only [f_R_classify_121]
  refine b_f (by decide +kernel) (b_f (by decide +kernel) (r_sufx hN (by decide +kernel) (by decide +kernel) ?_))
  rw [if_pos (by decide +kernel)]
  simp only [f_R_classify_137]
  refine b_f (by decide +kernel) ?_
  refine r_eqb hN (tx_N 34 (by omega) (by omega)) nt_34 (fun _ => ?_) (fun z => absurd rfl z)
  simp only [f_R_single, nm]
  rw [show (8 : Int32) = nI 8 from rfl, show ((24576 + 1536) + 63 : Int32) = nI 26175 from by decide, sS_2]
  exact p164 hN (by decide +kernel) (by decide +kernel) hp
theorem k_35 {τ : SS} {post : SS → Prop} (hp : post (sS τ 8 25919)) : f_R_classify post τ (jI (nameR 0 (tx 35))) := by
  have hN := tx_N 35 (by omega) (by omega)
  refine p0 hN (fun z => absurd z (by decide +kernel)) (fun _ => ?_)
  refine r_eqb hN (tx_N 17 (by omega) (by omega)) nt_17 (fun z => absurd z (by decide +kernel)) (fun _ => ?_)
  simp only [f_R_classify_41]
  refine r_among4 hN (tx_N 18 (by omega) (by omega)) (tx_N 19 (by omega) (by omega)) (tx_N 20 (by omega) (by omega)) (tx_N 21 (by omega) (by omega)) nt_18 nt_19 nt_20 nt_21 (fun z => absurd z (by decide +kernel)) (fun _ z => absurd z (by decide +kernel)) (fun _ _ z => absurd z (by decide +kernel)) (fun _ _ _ z => absurd z (by decide +kernel)) (fun _ _ _ _ => b_t (by decide) ?_)
  refine r_eqb hN (tx_N 22 (by omega) (by omega)) nt_22 (fun z => absurd z (by decide +kernel)) (fun _ => r_eqb hN (tx_N 23 (by omega) (by omega)) nt_23 (fun z => absurd z (by decide +kernel)) (fun _ => ?_))
  simp only [f_R_classify_121]
  refine b_f (by decide +kernel) (b_f (by decide +kernel) (r_sufx hN (by decide +kernel) (by decide +kernel) ?_))
  rw [if_pos (by decide +kernel)]
  simp only [f_R_classify_137]
  refine b_t (by decide +kernel) ?_
  refine r_eqb hN (tx_N 32 (by omega) (by omega)) nt_32 (fun z => absurd z (by decide +kernel)) (fun _ => ?_)
  refine r_eqb hN (tx_N 33 (by omega) (by omega)) nt_33 (fun z => absurd z (by decide +kernel)) (fun _ => ?_)
  refine r_eqb hN (tx_N 35 (by omega) (by omega)) nt_35 (fun _ => ?_) (fun z => absurd rfl z)
  simp only [f_R_single, nm]
  rw [show (8 : Int32) = nI 8 from rfl, show ((24576 + 1280) + 63 : Int32) = nI 25919 from by decide, sS_2]
  exact p50 hN (by decide +kernel) (by decide +kernel) (by decide +kernel) (by decide +kernel) (by decide +kernel) (p147 hN (by decide +kernel) (by decide +kernel) (by decide +kernel) hp)
theorem k_36 {τ : SS} {post : SS → Prop} (hp : post (sS τ 9 24895)) : f_R_classify post τ (jI (nameR 0 (tx 36))) := by
  have hN := tx_N 36 (by omega) (by omega)
  refine p0 hN (fun z => absurd z (by decide +kernel)) (fun _ => ?_)
  refine r_eqb hN (tx_N 17 (by omega) (by omega)) nt_17 (fun z => absurd z (by decide +kernel)) (fun _ => ?_)
  simp only [f_R_classify_41]
  refine r_among4 hN (tx_N 18 (by omega) (by omega)) (tx_N 19 (by omega) (by omega)) (tx_N 20 (by omega) (by omega)) (tx_N 21 (by omega) (by omega)) nt_18 nt_19 nt_20 nt_21 (fun z => absurd z (by decide +kernel)) (fun _ z => absurd z (by decide +kernel)) (fun _ _ z => absurd z (by decide +kernel)) (fun _ _ _ z => absurd z (by decide +kernel)) (fun _ _ _ _ => b_t (by decide) ?_)
  refine r_eqb hN (tx_N 22 (by omega) (by omega)) nt_22 (fun z => absurd z (by decide +kernel)) (fun _ => r_eqb hN (tx_N 23 (by omega) (by omega)) nt_23 (fun z => absurd z (by decide +kernel)) (fun _ => ?_))
  simp only [f_R_classify_121]
  refine b_f (by decide +kernel) (b_f (by decide +kernel) (r_sufx hN (by decide +kernel) (by decide +kernel) ?_))
  rw [if_pos (by decide +kernel)]
  simp only [f_R_classify_137]
  refine b_t (by decide +kernel) ?_
  refine r_eqb hN (tx_N 32 (by omega) (by omega)) nt_32 (fun z => absurd z (by decide +kernel)) (fun _ => ?_)
  refine r_eqb hN (tx_N 33 (by omega) (by omega)) nt_33 (fun z => absurd z (by decide +kernel)) (fun _ => ?_)
  refine r_eqb hN (tx_N 35 (by omega) (by omega)) nt_35 (fun z => absurd z (by decide +kernel)) (fun _ => ?_)
  refine r_eqb hN (tx_N 36 (by omega) (by omega)) nt_36 (fun _ => ?_) (fun z => absurd rfl z)
  simp only [f_R_single, nm]
  rw [show (9 : Int32) = nI 9 from rfl, show ((24576 + 256) + 63 : Int32) = nI 24895 from by decide, sS_2]
  exact p67 hN (by decide +kernel) (by decide +kernel) (by decide +kernel) (by decide +kernel) (p147 hN (by decide +kernel) (by decide +kernel) (by decide +kernel) hp)
theorem k_37 {τ : SS} {post : SS → Prop} (hp : post (sS τ 9 25407)) : f_R_classify post τ (jI (nameR 0 (tx 37))) := by
  have hN := tx_N 37 (by omega) (by omega)
  refine p0 hN (fun z => absurd z (by decide +kernel)) (fun _ => ?_)
  refine r_eqb hN (tx_N 17 (by omega) (by omega)) nt_17 (fun z => absurd z (by decide +kernel)) (fun _ => ?_)
  simp only [f_R_classify_41]
  refine r_among4 hN (tx_N 18 (by omega) (by omega)) (tx_N 19 (by omega) (by omega)) (tx_N 20 (by omega) (by omega)) (tx_N 21 (by omega) (by omega)) nt_18 nt_19 nt_20 nt_21 (fun z => absurd z (by decide +kernel)) (fun _ z => absurd z (by decide +kernel)) (fun _ _ z => absurd z (by decide +kernel)) (fun _ _ _ z => absurd z (by decide +kernel)) (fun _ _ _ _ => b_t (by decide) ?_)
  refine r_eqb hN (tx_N 22 (by omega) (by omega)) nt_22 (fun z => absurd z (by decide +kernel)) (fun _ => r_eqb hN (tx_N 23 (by omega) (by omega)) nt_23 (fun z => absurd z (by decide +kernel)) (fun _ => ?_))
  simp only [f_R_classify_121]
  refine b_f (by decide +kernel) (b_f (by decide +kernel) (r_sufx hN (by decide +kernel) (by decide +kernel) ?_))
  rw [if_pos (by decide +kernel)]
  simp only [f_R_classify_137]
  refine b_f (by decide +kernel) ?_
  refine r_eqb hN (tx_N 34 (by omega) (by omega)) nt_34 (fun z => absurd z (by decide +kernel)) (fun _ => ?_)
  refine r_eqb hN (tx_N 37 (by omega) (by omega)) nt_37 (fun _ => ?_) (fun z => absurd rfl z)
  simp only [f_R_single, nm]
  rw [show (9 : Int32) = nI 9 from rfl, show ((24576 + 768) + 63 : Int32) = nI 25407 from by decide, sS_2]
  exact p181 hN (by decide +kernel) hp
theorem k_38 {τ : SS} {post : SS → Prop} (hp : post (sS τ 9 25663)) : f_R_classify post τ (jI (nameR 0 (tx 38))) := by
  have hN := tx_N 38 (by omega) (by omega)
  refine p0 hN (fun z => absurd z (by decide +kernel)) (fun _ => ?_)
  refine r_eqb hN (tx_N 17 (by omega) (by omega)) nt_17 (fun z => absurd z (by decide +kernel)) (fun _ => ?_)
  simp only [f_R_classify_41]
  refine r_among4 hN (tx_N 18 (by omega) (by omega)) (tx_N 19 (by omega) (by omega)) (tx_N 20 (by omega) (by omega)) (tx_N 21 (by omega) (by omega)) nt_18 nt_19 nt_20 nt_21 (fun z => absurd z (by decide +kernel)) (fun _ z => absurd z (by decide +kernel)) (fun _ _ z => absurd z (by decide +kernel)) (fun _ _ _ z => absurd z (by decide +kernel)) (fun _ _ _ _ => b_t (by decide) ?_)
  refine r_eqb hN (tx_N 22 (by omega) (by omega)) nt_22 (fun z => absurd z (by decide +kernel)) (fun _ => r_eqb hN (tx_N 23 (by omega) (by omega)) nt_23 (fun z => absurd z (by decide +kernel)) (fun _ => ?_))
  simp only [f_R_classify_121]
  refine b_f (by decide +kernel) (b_f (by decide +kernel) (r_sufx hN (by decide +kernel) (by decide +kernel) ?_))
  rw [if_pos (by decide +kernel)]
  simp only [f_R_classify_137]
  refine b_f (by decide +kernel) ?_
  refine r_eqb hN (tx_N 34 (by omega) (by omega)) nt_34 (fun z => absurd z (by decide +kernel)) (fun _ => ?_)
  refine r_eqb hN (tx_N 37 (by omega) (by omega)) nt_37 (fun z => absurd z (by decide +kernel)) (fun _ => ?_)
  refine r_eqb hN (tx_N 38 (by omega) (by omega)) nt_38 (fun _ => ?_) (fun z => absurd rfl z)
  simp only [f_R_single, nm]
  rw [show (9 : Int32) = nI 9 from rfl, show ((24576 + 1024) + 63 : Int32) = nI 25663 from by decide, sS_2]
  exact hp
theorem k_46 {τ : SS} {post : SS → Prop} (hp : post (sS τ 6 26368)) : f_R_classify post τ (jI (nameR 0 (tx 46))) := by
  have hN := tx_N 46 (by omega) (by omega)
  refine p0 hN (fun z => absurd z (by decide +kernel)) (fun _ => ?_)
  refine r_eqb hN (tx_N 17 (by omega) (by omega)) nt_17 (fun z => absurd z (by decide +kernel)) (fun _ => ?_)
  simp only [f_R_classify_41]
  refine r_among4 hN (tx_N 18 (by omega) (by omega)) (tx_N 19 (by omega) (by omega)) (tx_N 20 (by omega) (by omega)) (tx_N 21 (by omega) (by omega)) nt_18 nt_19 nt_20 nt_21 (fun z => absurd z (by decide +kernel)) (fun _ z => absurd z (by decide +kernel)) (fun _ _ z => absurd z (by decide +kernel)) (fun _ _ _ z => absurd z (by decide +kernel)) (fun _ _ _ _ => b_t (by decide) ?_)
  refine r_eqb hN (tx_N 22 (by omega) (by omega)) nt_22 (fun z => absurd z (by decide +kernel)) (fun _ => r_eqb hN (tx_N 23 (by omega) (by omega)) nt_23 (fun z => absurd z (by decide +kernel)) (fun _ => ?_))
  simp only [f_R_classify_121]
  refine b_f (by decide +kernel) (b_f (by decide +kernel) (r_sufx hN (by decide +kernel) (by decide +kernel) ?_))
  rw [if_pos (by decide +kernel)]
  simp only [f_R_classify_137]
  refine b_t (by decide +kernel) ?_
  refine r_eqb hN (tx_N 32 (by omega) (by omega)) nt_32 (fun z => absurd z (by decide +kernel)) (fun _ => ?_)
  refine r_eqb hN (tx_N 33 (by omega) (by omega)) nt_33 (fun z => absurd z (by decide +kernel)) (fun _ => ?_)
  refine r_eqb hN (tx_N 35 (by omega) (by omega)) nt_35 (fun z => absurd z (by decide +kernel)) (fun _ => ?_)
  refine r_eqb hN (tx_N 36 (by omega) (by omega)) nt_36 (fun z => absurd z (by decide +kernel)) (fun _ => ?_)
  simp only [f_R_special_67]
  refine r_among4 hN (tx_N 46 (by omega) (by omega)) (tx_N 47 (by omega) (by omega)) (tx_N 48 (by omega) (by omega)) (tx_N 49 (by omega) (by omega)) nt_46 nt_47 nt_48 nt_49 (fun _ => ?_) (fun z0 z1 => absurd rfl z0) (fun z0 z1 z2 => absurd rfl z0) (fun z0 z1 z2 z3 => absurd rfl z0) (fun z0 z1 z2 z3 => absurd rfl z0)
  refine b_t (by decide) ?_
  simp only [nm]
  rw [show (6 : Int32) = nI 6 from rfl, show (26368 + (64 * nI 0) : Int32) = nI 26368 from by decide, sS_2]
  exact p147 hN (by decide +kernel) (by decide +kernel) (by decide +kernel) hp
theorem k_47 {τ : SS} {post : SS → Prop} (hp : post (sS τ 6 26432)) : f_R_classify post τ (jI (nameR 0 (tx 47))) := by
  have hN := tx_N 47 (by omega) (by omega)
  refine p0 hN (fun z => absurd z (by decide +kernel)) (fun _ => ?_)
  refine r_eqb hN (tx_N 17 (by omega) (by omega)) nt_17 (fun z => absurd z (by decide +kernel)) (fun _ => ?_)
  simp only [f_R_classify_41]
  refine r_among4 hN (tx_N 18 (by omega) (by omega)) (tx_N 19 (by omega) (by omega)) (tx_N 20 (by omega) (by omega)) (tx_N 21 (by omega) (by omega)) nt_18 nt_19 nt_20 nt_21 (fun z => absurd z (by decide +kernel)) (fun _ z => absurd z (by decide +kernel)) (fun _ _ z => absurd z (by decide +kernel)) (fun _ _ _ z => absurd z (by decide +kernel)) (fun _ _ _ _ => b_t (by decide) ?_)
  refine r_eqb hN (tx_N 22 (by omega) (by omega)) nt_22 (fun z => absurd z (by decide +kernel)) (fun _ => r_eqb hN (tx_N 23 (by omega) (by omega)) nt_23 (fun z => absurd z (by decide +kernel)) (fun _ => ?_))
  simp only [f_R_classify_121]
  refine b_f (by decide +kernel) (b_f (by decide +kernel) (r_sufx hN (by decide +kernel) (by decide +kernel) ?_))
  rw [if_pos (by decide +kernel)]
  simp only [f_R_classify_137]
  refine b_t (by decide +kernel) ?_
  refine r_eqb hN (tx_N 32 (by omega) (by omega)) nt_32 (fun z => absurd z (by decide +kernel)) (fun _ => ?_)
  refine r_eqb hN (tx_N 33 (by omega) (by omega)) nt_33 (fun z => absurd z (by decide +kernel)) (fun _ => ?_)
  refine r_eqb hN (tx_N 35 (by omega) (by omega)) nt_35 (fun z => absurd z (by decide +kernel)) (fun _ => ?_)
  refine r_eqb hN (tx_N 36 (by omega) (by omega)) nt_36 (fun z => absurd z (by decide +kernel)) (fun _ => ?_)
  simp only [f_R_special_67]
  refine r_among4 hN (tx_N 46 (by omega) (by omega)) (tx_N 47 (by omega) (by omega)) (tx_N 48 (by omega) (by omega)) (tx_N 49 (by omega) (by omega)) nt_46 nt_47 nt_48 nt_49 (fun z => absurd z (by decide +kernel)) (fun _ _ => ?_) (fun z0 z1 z2 => absurd rfl z1) (fun z0 z1 z2 z3 => absurd rfl z1) (fun z0 z1 z2 z3 => absurd rfl z1)
  refine b_t (by decide) ?_
  simp only [nm]
  rw [show (6 : Int32) = nI 6 from rfl, show (26368 + (64 * nI 1) : Int32) = nI 26432 from by decide, sS_2]
  exact p147 hN (by decide +kernel) (by decide +kernel) (by decide +kernel) hp
theorem k_48 {τ : SS} {post : SS → Prop} (hp : post (sS τ 6 26496)) : f_R_classify post τ (jI (nameR 0 (tx 48))) := by
  have hN := tx_N 48 (by omega) (by omega)
  refine p0 hN (fun z => absurd z (by decide +kernel)) (fun _ => ?_)
  refine r_eqb hN (tx_N 17 (by omega) (by omega)) nt_17 (fun z => absurd z (by decide +kernel)) (fun _ => ?_)
  simp only [f_R_classify_41]
  refine r_among4 hN (tx_N 18 (by omega) (by omega)) (tx_N 19 (by omega) (by omega)) (tx_N 20 (by omega) (by omega)) (tx_N 21 (by omega) (by omega)) nt_18 nt_19 nt_20 nt_21 (fun z => absurd z (by decide +kernel)) (fun _ z => absurd z (by decide +kernel)) (fun _ _ z => absurd z (by decide +kernel)) (fun _ _ _ z => absurd z (by decide +kernel)) (fun _ _ _ _ => b_t (by decide) ?_)
  refine r_eqb hN (tx_N 22 (by omega) (by omega)) nt_22 (fun z => absurd z (by decide +kernel)) (fun _ => r_eqb hN (tx_N 23 (by omega) (by omega)) nt_23 (fun z => absurd z (by decide +kernel)) (fun _ => ?_))
  simp only [f_R_classify_121]
  refine b_f (by decide +kernel) (b_f (by decide +kernel) (r_sufx hN (by decide +kernel) (by decide +kernel) ?_))
  rw [if_pos (by decide +kernel)]
  simp only [f_R_classify_137]
  refine b_t (by decide +kernel) ?_
  refine r_eqb hN (tx_N 32 (by omega) (by omega)) nt_32 (fun z => absurd z (by decide +kernel)) (fun _ => ?_)
  refine r_eqb hN (tx_N 33 (by omega) (by omega)) nt_33 (fun z => absurd z (by decide +kernel)) (fun _ => ?_)
  refine r_eqb hN (tx_N 35 (by omega) (by omega)) nt_35 (fun z => absurd z (by decide +kernel)) (fun _ => ?_)
  refine r_eqb hN (tx_N 36 (by omega) (by omega)) nt_36 (fun z => absurd z (by decide +kernel)) (fun _ => ?_)
  simp only [f_R_special_67]
  refine r_among4 hN (tx_N 46 (by omega) (by omega)) (tx_N 47 (by omega) (by omega)) (tx_N 48 (by omega) (by omega)) (tx_N 49 (by omega) (by omega)) nt_46 nt_47 nt_48 nt_49 (fun z => absurd z (by decide +kernel)) (fun _ z => absurd z (by decide +kernel)) (fun _ _ _ => ?_) (fun z0 z1 z2 z3 => absurd rfl z2) (fun z0 z1 z2 z3 => absurd rfl z2)
  refine b_t (by decide) ?_
  simp only [nm]
  rw [show (6 : Int32) = nI 6 from rfl, show (26368 + (64 * nI 2) : Int32) = nI 26496 from by decide, sS_2]
  exact p147 hN (by decide +kernel) (by decide +kernel) (by decide +kernel) hp
theorem k_49 {τ : SS} {post : SS → Prop} (hp : post (sS τ 6 26560)) : f_R_classify post τ (jI (nameR 0 (tx 49))) := by
  have hN := tx_N 49 (by omega) (by omega)
  refine p0 hN (fun z => absurd z (by decide +kernel)) (fun _ => ?_)
  refine r_eqb hN (tx_N 17 (by omega) (by omega)) nt_17 (fun z => absurd z (by decide +kernel)) (fun _ => ?_)
  simp only [f_R_classify_41]
  refine r_among4 hN (tx_N 18 (by omega) (by omega)) (tx_N 19 (by omega) (by omega)) (tx_N 20 (by omega) (by omega)) (tx_N 21 (by omega) (by omega)) nt_18 nt_19 nt_20 nt_21 (fun z => absurd z (by decide +kernel)) (fun _ z => absurd z (by decide +kernel)) (fun _ _ z => absurd z (by decide +kernel)) (fun _ _ _ z => absurd z (by decide +kernel)) (fun _ _ _ _ => b_t (by decide) ?_)
  refine r_eqb hN (tx_N 22 (by omega) (by omega)) nt_22 (fun z => absurd z (by decide +kernel)) (fun _ => r_eqb hN (tx_N 23 (by omega) (by omega)) nt_23 (fun z => absurd z (by decide +kernel)) (fun _ => ?_))
  simp only [f_R_classify_121]
  refine b_f (by decide +kernel) (b_f (by decide +kernel) (r_sufx hN (by decide +kernel) (by decide +kernel) ?_))
  rw [if_pos (by decide +kernel)]
  simp only [f_R_classify_137]
  refine b_t (by decide +kernel) ?_
  refine r_eqb hN (tx_N 32 (by omega) (by omega)) nt_32 (fun z => absurd z (by decide +kernel)) (fun _ => ?_)
  refine r_eqb hN (tx_N 33 (by omega) (by omega)) nt_33 (fun z => absurd z (by decide +kernel)) (fun _ => ?_)
  refine r_eqb hN (tx_N 35 (by omega) (by omega)) nt_35 (fun z => absurd z (by decide +kernel)) (fun _ => ?_)
  refine r_eqb hN (tx_N 36 (by omega) (by omega)) nt_36 (fun z => absurd z (by decide +kernel)) (fun _ => ?_)
  simp only [f_R_special_67]
  refine r_among4 hN (tx_N 46 (by omega) (by omega)) (tx_N 47 (by omega) (by omega)) (tx_N 48 (by omega) (by omega)) (tx_N 49 (by omega) (by omega)) nt_46 nt_47 nt_48 nt_49 (fun z => absurd z (by decide +kernel)) (fun _ z => absurd z (by decide +kernel)) (fun _ _ z => absurd z (by decide +kernel)) (fun _ _ _ _ => ?_) (fun z0 z1 z2 z3 => absurd rfl z3)
  refine b_t (by decide) ?_
  simp only [nm]
  rw [show (6 : Int32) = nI 6 from rfl, show (26368 + (64 * nI 3) : Int32) = nI 26560 from by decide, sS_2]
  exact p147 hN (by decide +kernel) (by decide +kernel) (by decide +kernel) hp
