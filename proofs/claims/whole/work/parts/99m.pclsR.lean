/-! the pure side: statements by their names, in the reference -/
theorem nameR_app (a b : List Nat) : nameR 0 (a ++ b) = nameR 0 a * 256 ^ b.length + nameR 0 b := by
  have : ∀ (a : List Nat) (x : Nat), nameR x (a ++ b) = nameR (nameR x a) b := by
    intro a
    induction a with
    | nil => intro x; rfl
    | cons c r ih => intro x; exact ih _
  rw [this, nameR_a]
theorem nameR_take (cs : List Nat) (k : Nat) (hk : k ≤ cs.length) (h : ∀ c ∈ cs, c < 256) : nameR 0 cs / 256 ^ (cs.length - k) = nameR 0 (cs.take k) := by
  have e : cs = cs.take k ++ cs.drop k := (List.take_append_drop k cs).symm
  have b := nameR_lt (cs.drop k) (fun c hc => h c (List.mem_of_mem_drop hc))
  rw [List.length_drop] at b
  conv => lhs; lhs; rw [e]
  rw [nameR_app, List.length_drop, Nat.mul_comm, Nat.mul_add_div (Nat.pos_of_ne_zero (by simp)), Nat.div_eq_of_lt b, Nat.add_zero]
theorem isN_take {cs : List Nat} (h : isN cs) (hl : 3 ≤ cs.length) : isN (cs.take 3) := ⟨by rw [List.length_take]; omega, by rw [List.length_take]; omega, fun c hc => h.2.2 c (List.mem_of_mem_take hc)⟩
theorem r_front {τ : SS} {cs : List Nat} {post : Int64 → SS → Prop} (h : isN cs) (hl : 3 ≤ cs.length) (hp : post (jI (nameR 0 (cs.take 3))) τ) : f_R_front post τ (jI (nameR 0 cs)) (nI 3) := by
  have hN := isN_48 h
  have h6 := h.2.1
  refine r_size h ?_
  have e1 : (8 * (nI cs.length - nI 3)).toInt64 &&& 63 = jI (8 * (cs.length - 3)) := by
    simp (disch := omega) only [nm, q_lit, q_add, q_sub, q_subN, q_n1, q_mul, q_div, q_nm, q_and, q_or, q_xor, q_shr, q_shl, q_cl, q_a1, q_a3, q_a7, q_a31, q_a63, q_a255, q_a15, q_a16, q_a17, q_a2, q_a4, q_a8, q_a1024, q_a65536, Nat.reduceMod, Nat.reducePow, Nat.reduceDiv, Nat.reduceMul, Nat.reduceAdd, Nat.reduceSub, Nat.reduceEqDiff]
    rw [n_j (by omega), j_lit, j_and, q_a63, Nat.mod_eq_of_lt (by omega)]
  rw [e1, j_shr (by omega) (by omega), Nat.pow_mul, show (2 : Nat) ^ 8 = 256 from rfl, nameR_take cs 3 hl (isN_256 h)]
  exact hp
theorem r_eqb {cs ds : List Nat} {x : Int64} {A B : Prop} (h : isN cs) (hd : isN ds) (ex : x = jI (nameR 0 ds)) (h1 : cs = ds → A) (h2 : cs ≠ ds → B) : br (lg_cmp (jI (nameR 0 cs)) x = 0) A B := by
  subst ex
  refine b_c (fun z => ?_) (fun z => ?_)
  · rw [q_lit, j_c0, eqR h hd] at z; exact h1 z
  · rw [q_lit, j_c0, eqR h hd] at z; exact h2 z
theorem r_among4 {σ : SS} {cs a b c d : List Nat} {post : Int32 → SS → Prop} {xa xb xc xd : Int64} (h : isN cs) (ha : isN a) (hb : isN b) (hc : isN c) (hd : isN d) (ea : xa = jI (nameR 0 a)) (eb : xb = jI (nameR 0 b)) (ec : xc = jI (nameR 0 c)) (ed : xd = jI (nameR 0 d)) (h0 : cs = a → post (nI 0) σ) (h1 : cs ≠ a → cs = b → post (nI 1) σ) (h2 : cs ≠ a → cs ≠ b → cs = c → post (nI 2) σ) (h3 : cs ≠ a → cs ≠ b → cs ≠ c → cs = d → post (nI 3) σ) (h4 : cs ≠ a → cs ≠ b → cs ≠ c → cs ≠ d → post (nI 4294967295) σ) : f_R_among post σ (jI (nameR 0 cs)) xa xb xc xd :=
  r_among h ha hb hc ea eb ec h0 h1 h2 (fun z0 z1 z2 => r_eqb h hd ed (fun z => h3 z0 z1 z2 z) (fun z => h4 z0 z1 z2 z))
def fnN (l : List Nat) : Nat := if l = tx 24 then 0 else if l = tx 25 then 1 else if l = tx 26 then 2 else if l = tx 27 then 3 else if l = tx 28 then 4 else if l = tx 29 then 5 else if l = tx 30 then 6 else if l = tx 31 then 7 else 4294967295
def whN (l : List Nat) : Nat := if l = tx 40 then 1 else if l = tx 41 then 2 else if l = tx 42 then 3 else if l = tx 43 then 4 else if l = tx 44 then 5 else if l = tx 45 then 6 else 4294967295
theorem r_fn {τ : SS} {l : List Nat} {post : Int32 → SS → Prop} (h : isN l) (hp : post (nI (fnN l)) τ) : f_R_functionOf post τ (jI (nameR 0 l)) := by
  have N : ∀ j, 5 ≤ j → j < 50 → isN (tx j) := tx_N
  have neg : (nI 4294967295 : Int32) < 0 := by decide
  have p0 : ¬ (nI 0 : Int32) < 0 := by decide
  have p1 : ¬ (nI 1 : Int32) < 0 := by decide
  have p2 : ¬ (nI 2 : Int32) < 0 := by decide
  have p3 : ¬ (nI 3 : Int32) < 0 := by decide
  have d2 : ∀ (r2 : Int32) (q : Int32 → SS → Prop), (l = tx 28 → q (nI 0) τ) → (l ≠ tx 28 → l = tx 29 → q (nI 1) τ) → (l ≠ tx 28 → l ≠ tx 29 → l = tx 30 → q (nI 2) τ) → (l ≠ tx 28 → l ≠ tx 29 → l ≠ tx 30 → l = tx 31 → q (nI 3) τ) → (l ≠ tx 28 → l ≠ tx 29 → l ≠ tx 30 → l ≠ tx 31 → q (nI 4294967295) τ) → f_R_among q τ (jI (nameR 0 l)) 4277315 5461314 4277316 4279876 := fun _ q a b c d e => r_among4 h (N 28 (by omega) (by omega)) (N 29 (by omega) (by omega)) (N 30 (by omega) (by omega)) (N 31 (by omega) (by omega)) nt_28 nt_29 nt_30 nt_31 a b c d e
  unfold fnN at hp
  simp only [f_R_functionOf]
  refine r_among4 h (N 24 (by omega) (by omega)) (N 25 (by omega) (by omega)) (N 26 (by omega) (by omega)) (N 27 (by omega) (by omega)) nt_24 nt_25 nt_26 nt_27 (fun z => ?_) (fun z0 z => ?_) (fun z0 z1 z => ?_) (fun z0 z1 z2 z => ?_) (fun z0 z1 z2 z3 => ?_)
  · rw [if_pos z] at hp
    exact d2 0 _ (fun _ => b_f p0 hp) (fun _ _ => b_f p0 hp) (fun _ _ _ => b_f p0 hp) (fun _ _ _ _ => b_f p0 hp) (fun _ _ _ _ => b_f p0 hp)
  · rw [if_neg z0, if_pos z] at hp
    exact d2 0 _ (fun _ => b_f p1 hp) (fun _ _ => b_f p1 hp) (fun _ _ _ => b_f p1 hp) (fun _ _ _ _ => b_f p1 hp) (fun _ _ _ _ => b_f p1 hp)
  · rw [if_neg z0, if_neg z1, if_pos z] at hp
    exact d2 0 _ (fun _ => b_f p2 hp) (fun _ _ => b_f p2 hp) (fun _ _ _ => b_f p2 hp) (fun _ _ _ _ => b_f p2 hp) (fun _ _ _ _ => b_f p2 hp)
  · rw [if_neg z0, if_neg z1, if_neg z2, if_pos z] at hp
    exact d2 0 _ (fun _ => b_f p3 hp) (fun _ _ => b_f p3 hp) (fun _ _ _ => b_f p3 hp) (fun _ _ _ _ => b_f p3 hp) (fun _ _ _ _ => b_f p3 hp)
  · rw [if_neg z0, if_neg z1, if_neg z2, if_neg z3] at hp
    refine d2 0 _ (fun y => b_t neg (b_f p0 ?_)) (fun y0 y => b_t neg (b_f p1 ?_)) (fun y0 y1 y => b_t neg (b_f p2 ?_)) (fun y0 y1 y2 y => b_t neg (b_f p3 ?_)) (fun y0 y1 y2 y3 => b_t neg (b_t neg ?_))
    · rw [if_pos y] at hp; exact hp
    · rw [if_neg y0, if_pos y] at hp; exact hp
    · rw [if_neg y0, if_neg y1, if_pos y] at hp; exact hp
    · rw [if_neg y0, if_neg y1, if_neg y2, if_pos y] at hp; exact hp
    · rw [if_neg y0, if_neg y1, if_neg y2, if_neg y3] at hp; rw [q_lit, q_n1]; exact hp
theorem r_wh {τ : SS} {l : List Nat} {post : Int32 → SS → Prop} (h : isN l) (hp : post (nI (whN l)) τ) : f_R_whatOf post τ (jI (nameR 0 l)) := by
  have N : ∀ j, 5 ≤ j → j < 50 → isN (tx j) := tx_N
  unfold whN at hp
  simp only [f_R_whatOf]
  refine r_among4 h (N 40 (by omega) (by omega)) (N 41 (by omega) (by omega)) (N 42 (by omega) (by omega)) (N 43 (by omega) (by omega)) nt_40 nt_41 nt_42 nt_43 (fun z => ?_) (fun z0 z => ?_) (fun z0 z1 z => ?_) (fun z0 z1 z2 z => ?_) (fun z0 z1 z2 z3 => ?_)
  · rw [if_pos z] at hp; exact b_f (by decide) hp
  · rw [if_neg z0, if_pos z] at hp; exact b_f (by decide) hp
  · rw [if_neg z0, if_neg z1, if_pos z] at hp; exact b_f (by decide) hp
  · rw [if_neg z0, if_neg z1, if_neg z2, if_pos z] at hp; exact b_f (by decide) hp
  · rw [if_neg z0, if_neg z1, if_neg z2, if_neg z3] at hp
    refine b_t (by decide) (r_eqb h (N 44 (by omega) (by omega)) nt_44 (fun y => ?_) (fun y => r_eqb h (N 45 (by omega) (by omega)) nt_45 (fun w => ?_) (fun w => ?_)))
    · rw [if_pos y] at hp; exact hp
    · rw [if_neg y, if_pos w] at hp; exact hp
    · rw [if_neg y, if_neg w] at hp; rw [q_lit, q_n1]; exact hp
theorem r_suf {τ : SS} {a b c x : Nat} {post : Int32 → SS → Prop} (ha : a < 256) (hb : b < 256) (hc : c < 256) (hx : x < 256) (hp : post (nI (ix a b c x)) τ) : f_R_suffix post τ (nI x) (nI a) (nI b) (nI c) := by
  unfold ix at hp
  simp only [f_R_suffix]
  by_cases z : x = a
  · rw [if_pos z] at hp; exact b_t (by rw [z]) hp
  rw [if_neg z] at hp
  refine b_f (by rw [q_eq (by omega) (by omega)]; exact z) ?_
  by_cases y : x = b
  · rw [if_pos y] at hp; exact b_t (by rw [y]) hp
  rw [if_neg y] at hp
  refine b_f (by rw [q_eq (by omega) (by omega)]; exact y) ?_
  by_cases w : x = c
  · rw [if_pos w] at hp; exact b_t (by rw [w]) hp
  · rw [if_neg w] at hp; exact b_f (by rw [q_eq (by omega) (by omega)]; exact w) hp
/-- sort and base -/
def sS (τ : SS) (s b : Nat) : SS := sI (sI τ 26 (nI s)) 27 (nI b)
theorem sS_26 (τ : SS) (s b c : Nat) : sI (sS τ s b) 26 (nI c) = sS τ c b := by
  unfold sS
  rw [sI_c (sI τ 26 (nI s)) (nI b) (nI c) (show (26 : Nat) ≠ 27 by omega), sI_sI]
theorem sS_27 (τ : SS) (s b c : Nat) : sI (sS τ s b) 27 (nI c) = sS τ s c := by
  unfold sS
  rw [sI_sI]
theorem sS_2 (τ : SS) (s b c d : Nat) : sI (sI (sS τ s b) 26 (nI c)) 27 (nI d) = sS τ c d := by rw [sS_26, sS_27]
