/-! the pure side: the assembler behind a fault, statements and lines -/
theorem s_ix {σ : SS} {j : Nat} {x : Int32} {post : Int32 → SS → Prop} (hj : 0 < j) (hj2 : j < 4) (h : ∀ r, post r σ) : f_JStr_indexOf1 post σ j x := by
  obtain ⟨k7, k6⟩ := kS123 j hj2 hj
  have hj5 : j < 50 := by omega
  have go : f_JLat_indexOfChar4 (fun r_7 σ_6 => post r_7 σ_6) σ j x (nI 0) (nI 3) := by
    have L : ∀ k i, i + k = 3 → f_JLat_indexOfChar4_7 (fun r_7 σ_6 => post r_7 σ_6) (k + 1) σ j (nI 3) (x.toInt8.toInt32) (nI i) := by
      intro k
      induction k with
      | zero => intro i hi; rw [f_JLat_indexOfChar4_7]; exact b_t (by rw [q_le (by omega) (by omega)]; omega) (h _)
      | succ k ih =>
        intro i hi
        rw [f_JLat_indexOfChar4_7]
        refine b_f (by rw [q_le (by omega) (by omega)]; omega) ⟨hj5, by rw [q_in (by omega), k7]; omega, b_c (fun _ => h _) (fun _ => ?_)⟩
        simp only [nm]
        rw [show nI i + 1 = nI (i + 1) from q_add i 1]
        exact ih (i + 1) (by omega)
    exact ⟨4, L 3 0 (by omega)⟩
  simp (disch := omega) only [f_JStr_indexOf1, f_JStr_indexOf2, f_JStr_isLatin10, f_JStr_length0, f_JStr_coder0, f_JLat_indexOf4, f_JLat_canEncode1, nm, q_lit, q_add, q_sub, q_subN, q_n1, q_mul, q_div, q_nm, q_and, q_or, q_xor, q_shr, q_shl, q_cl, q_a1, q_a3, q_a7, q_a31, q_a63, q_a255, q_a15, q_a16, q_a17, q_a2, q_a4, q_a8, q_a1024, q_a65536, Nat.reduceMod, Nat.reducePow, Nat.reduceDiv, Nat.reduceMul, Nat.reduceAdd, Nat.reduceSub, Nat.reduceEqDiff, q_ltT, q_ltF, q_leT, q_leF, q_eqT, q_eqF, q_inT, q_bz0, q_bz1, b_T, b_F, true_and, and_true, if_true, if_false, k6, hj5, Nat.div_one]
  exact b_c (fun _ => h _) (fun _ => b_c (fun _ => h _) (fun _ => go))
theorem s_fb {σ : SS} {e : Nat} {x : Int64} {post : Int32 → SS → Prop} (he : e < 35) (h : ∀ r, post r σ) : f_S_furtherBits post σ e x := by
  have e165 : ∀ a b y, f_S_furtherBits_165 post σ a b y := fun a b y => b_c (fun _ => h _) (fun _ => h _)
  have e132 : ∀ y a (j : Nat), 0 < j → j < 4 → f_S_furtherBits_132 post σ y a j := fun y a j h1 h2 => ⟨by omega, s_ix h1 h2 (fun r => b_c (fun _ => e165 _ _ _) (fun _ => e165 _ _ _))⟩
  have e117 : ∀ y a, f_S_furtherBits_117 post σ e y a := fun y a => ⟨he, b_c (fun _ => e132 _ _ 2 (by omega) (by omega)) (fun _ => e132 _ _ 3 (by omega) (by omega))⟩
  have e30 : ∀ s, f_S_furtherBits_30 post σ e x s := fun s => b_c (fun _ => ⟨he, b_c (fun _ => h _) (fun _ => h _)⟩) (fun _ => ⟨he, b_c (fun _ => b_c (fun _ => s_ix (by omega) (by omega) (fun r => b_c (fun _ => e117 _ _) (fun _ => e117 _ _))) (fun _ => e117 _ _)) (fun _ => h _)⟩)
  exact ⟨he, b_c (fun _ => e30 _) (fun _ => b_c (fun _ => e30 _) (fun _ => b_c (fun _ => e30 _) (fun _ => e30 _)))⟩
theorem s_named {σ : SS} {x : Int64} {post : Nat → SS → Prop} (h : ∀ t, t < 35 → post t σ) : f_S_named post σ x := by
  have L : ∀ k i, i + k = 35 → f_S_named_2 post (k + 1) σ x (nI i) := by
    intro k
    induction k with
    | zero => intro i hi; rw [f_S_named_2]; exact b_t (by rw [q_lit, q_le (by omega) (by omega)]; omega) (h _ (by omega))
    | succ k ih =>
      intro i hi
      rw [f_S_named_2]
      refine b_f (by rw [q_lit, q_le (by omega) (by omega)]; omega) ⟨by rw [q_in (by omega)]; omega, ?_⟩
      rw [q_cl (by omega)]
      refine s_fb (by omega) (fun r => b_c (fun _ => ?_) (fun _ => ⟨by rw [q_in (by omega)]; omega, h _ (by omega)⟩))
      simp only [nm]
      rw [show nI i + 1 = nI (i + 1) from q_add i 1]
      exact ih (i + 1) (by omega)
  exact ⟨36, L 35 0 (by omega)⟩
def leN (f : Nat) : Nat := if f = 3 ∨ f = 4 ∨ f = 6 then 2 else if f = 8 then 0 else 1
def moN (f : Nat) : Nat := if f = 2 ∨ f = 3 ∨ f = 4 then leN f + 1 else leN f
def adN (f : Nat) : Nat := if f = 2 then 0 else if f = 3 then 1 else 4294967295
theorem fm_le : ∀ e, e < 35 → fmN e ≤ 10 := by decide +kernel
theorem le_le (f : Nat) : leN f ≤ 2 := by unfold leN; (repeat' split) <;> omega
theorem mo_le (f : Nat) : moN f ≤ 3 := by unfold moN; have := le_le f; split <;> omega
theorem f11 {f : Nat} (h : f ≤ 10) : f = 0 ∨ f = 1 ∨ f = 2 ∨ f = 3 ∨ f = 4 ∨ f = 5 ∨ f = 6 ∨ f = 7 ∨ f = 8 ∨ f = 9 ∨ f = 10 := by omega
theorem c_least {σ : SS} {e : Nat} {post : Int32 → SS → Prop} (he : e < 35) (h : post (nI (leN (fmN e))) σ) : f_S_leastOperands post σ e := by
  refine ⟨he, ?_⟩
  have hf := fm_le e he
  rw [(eS_F e he).1]
  revert h hf
  generalize fmN e = f
  intro h hf
  rcases f11 hf with z | z | z | z | z | z | z | z | z | z | z <;> subst z <;> simp (disch := omega) only [nm, q_lit, q_add, q_sub, q_subN, q_n1, q_mul, q_div, q_nm, q_and, q_or, q_xor, q_shr, q_shl, q_cl, q_a1, q_a3, q_a7, q_a31, q_a63, q_a255, q_a15, q_a16, q_a17, q_a2, q_a4, q_a8, q_a1024, q_a65536, Nat.reduceMod, Nat.reducePow, Nat.reduceDiv, Nat.reduceMul, Nat.reduceAdd, Nat.reduceSub, Nat.reduceEqDiff, q_ltT, q_ltF, q_leT, q_leF, q_eqT, q_eqF, q_inT, q_bz0, q_bz1, b_T, b_F, true_and, and_true, if_true, if_false] <;> exact h
theorem c_adr {σ : SS} {e : Nat} {post : Int32 → SS → Prop} (he : e < 35) (h : post (nI (adN (fmN e))) σ) : f_S_addressOperand post σ e := by
  refine ⟨he, ?_⟩
  have hf := fm_le e he
  rw [(eS_F e he).1]
  revert h hf
  generalize fmN e = f
  intro h hf
  rcases f11 hf with z | z | z | z | z | z | z | z | z | z | z <;> subst z <;> simp (disch := omega) only [nm, q_lit, q_add, q_sub, q_subN, q_n1, q_mul, q_div, q_nm, q_and, q_or, q_xor, q_shr, q_shl, q_cl, q_a1, q_a3, q_a7, q_a31, q_a63, q_a255, q_a15, q_a16, q_a17, q_a2, q_a4, q_a8, q_a1024, q_a65536, Nat.reduceMod, Nat.reducePow, Nat.reduceDiv, Nat.reduceMul, Nat.reduceAdd, Nat.reduceSub, Nat.reduceEqDiff, q_ltT, q_ltF, q_leT, q_leF, q_eqT, q_eqF, q_inT, q_bz0, q_bz1, b_T, b_F, true_and, and_true, if_true, if_false] <;> exact h
theorem c_most {σ : SS} {e : Nat} {post : Int32 → SS → Prop} (he : e < 35) (h : post (nI (moN (fmN e))) σ) : f_S_mostOperands post σ e := by
  refine ⟨he, ?_⟩
  have hf := fm_le e he
  have e1 : fmN e = 2 ∨ fmN e = 3 ∨ fmN e = 4 → f_S_mostOperands_29 post σ e 1 := by
    intro z
    refine b_f (by decide) ⟨he, c_least he ?_⟩
    rw [show (nI (leN (fmN e)) + 1 : Int32) = nI (leN (fmN e) + 1) from q_add _ 1]
    unfold moN at h
    rw [if_pos z] at h
    exact h
  have e0 : ¬ (fmN e = 2 ∨ fmN e = 3 ∨ fmN e = 4) → f_S_mostOperands_29 post σ e 0 := by
    intro z
    refine b_t rfl ⟨he, c_least he ?_⟩
    unfold moN at h
    rw [if_neg z] at h
    exact h
  rw [(eS_F e he).1]
  refine b_c (fun z => e1 ?_) (fun z2 => b_c (fun z => e1 ?_) (fun z3 => b_c (fun z => e1 ?_) (fun z4 => e0 ?_)))
  · rw [q_lit, q_eq (by omega) (by omega)] at z; omega
  · rw [q_lit, q_eq (by omega) (by omega)] at z; omega
  · rw [q_lit, q_eq (by omega) (by omega)] at z; omega
  · rw [q_lit, q_eq (by omega) (by omega)] at z2 z3 z4; omega
theorem s_takes2 {σ : SS} {c : Nat} {post : Int32 → SS → Prop} (hf : σ.1 32 ≠ nI 0) (hi : InvC σ) (hc : c ≠ 10) (hc2 : c < 65536) (h0 : post (nI 0) σ) (h1 : ∀ u, Saf σ u → post (nI 1) u) : f_A_takes post σ (nI c) := by
  simp only [f_A_takes]
  refine s_look hf hi (fun k hk hk2 => b_c (fun z => ?_) (fun _ => h0))
  rw [q_eq (by omega) (by omega)] at z
  exact h1 _ (s_adv hi (hk2 (by omega)))
theorem mo_if {m : Nat} (h : m ≤ 3) : (if (3 : Int32) < nI m then (3 : Int32) else nI m) = nI m := by
  rw [if_neg]
  rw [q_lit, q_lt (by omega) (by omega)]
  omega
theorem s_79 {σ : SS} {e m : Nat} {post : Int32 → SS → Prop} (he : e < 35) (hm : m ≤ 3) (hf : σ.1 32 ≠ nI 0) (h : ∀ r u, Saf σ u → post r u) : ∀ k i (r : Int32) u, i + k = m → Saf σ u → f_A_readStatement_79 post (k + 1) u e r (nI m) (nI i) := by
  have ne : ∀ {u}, Saf σ u → u.1 32 ≠ nI 0 := fun hu => by rw [hu.2.1]; exact hf
  have e167 : ∀ u r, Saf σ u → f_A_readStatement_167 post u r := fun u r hu => s_comp (f := 2) (ne hu) (h _ _ hu)
  have e147 : ∀ u r, Saf σ u → f_A_readStatement_147 post u e r := fun u r hu => ⟨he, c_least he (b_c (fun _ => e167 u r hu) (fun _ => s_look (ne hu) hu.1 (fun k _ _ => b_c (fun _ => h _ _ hu) (fun _ => e167 u r hu))))⟩
  intro k
  induction k with
  | zero =>
    intro i r u hi hu
    rw [f_A_readStatement_79]
    exact b_t (by rw [q_le (by omega) (by omega)]; omega) (e147 u r hu)
  | succ k ih =>
    intro i r u hi hu
    have e122 : ∀ w, Saf σ w → f_A_readStatement_122 post (f_A_readStatement_79 post (k + 1)) w e r (nI m) (nI i) := by
      intro w hw
      refine s_expr (ne hw) hw.1 (fun x y _ hy => ⟨by rw [q_in (by omega)]; omega, ?_⟩)
      simp only [nm]
      rw [show nI i + 1 = nI (i + 1) from q_add i 1]
      exact ih (i + 1) r _ (by omega) (((hw.trans hy).sA (by omega) _ _).sI (by omega) _)
    have e99 : ∀ w, Saf σ w → f_A_readStatement_99 post (f_A_readStatement_79 post (k + 1)) w e r (nI m) (nI i) := by
      intro w hw
      refine ⟨he, c_adr he (b_c (fun _ => ?_) (fun _ => e122 w hw))⟩
      exact s_takes2 (c := 64) (ne hw) hw.1 (by omega) (by omega) (b_t rfl (e122 w hw)) (fun y hy => b_f (by decide) (e122 _ ((hw.trans hy).sI (by omega) _)))
    rw [f_A_readStatement_79]
    refine b_f (by rw [q_le (by omega) (by omega)]; omega) (b_c (fun _ => e99 u hu) (fun _ => ?_))
    exact s_takes2 (c := 44) (ne hu) hu.1 (by omega) (by omega) (b_t rfl (e147 u r hu)) (fun y hy => b_f (by decide) (e99 _ (hu.trans hy)))
theorem s_57 {σ : SS} {e : Nat} {post : Int32 → SS → Prop} (he : e < 35) (hf : σ.1 32 ≠ nI 0) (h : ∀ r u, Saf σ u → post r u) (u : SS) (r : Int32) (hu : Saf σ u) : f_A_readStatement_57 post u e r := by
  simp only [f_A_readStatement_57, nm]
  refine ⟨he, c_most he ?_⟩
  rw [mo_if (mo_le _)]
  exact ⟨moN (fmN e) + 1, s_79 he (mo_le _) hf h _ 0 r _ (by omega) ((hu.sI (by omega) _).sI (by omega) _)⟩
theorem s_rS {σ : SS} {e : Nat} {post : Int32 → SS → Prop} (he : e < 35) (hf : σ.1 32 ≠ nI 0) (hi : InvC σ) (hat : e ≠ 34 → ∃ cnt a, σ.1 35 = nI cnt ∧ cnt ≤ 6001 ∧ σ.1 29 = nI a ∧ a < cnt) (h : ∀ r u, Saf σ u → post r u) : f_A_readStatement post σ e := by
  have ne : ∀ {u}, Saf σ u → u.1 32 ≠ nI 0 := fun hu => by rw [hu.2.1]; exact hf
  have e35 : ∀ u r, Saf σ u → f_A_readStatement_35 post u e r := fun u r hu => ⟨he, b_c (fun _ => s_takes2 (c := 35) (ne hu) hu.1 (by omega) (by omega) (b_t rfl (s_57 he hf h u r hu)) (fun y hy => b_f (by decide) (s_57 he hf h _ _ (hu.trans hy)))) (fun _ => s_57 he hf h u r hu)⟩
  exact ⟨he, b_c (fun _ => e35 σ 0 (Saf.refl hi)) (fun z => s_name hi (fun x => s_fb he (fun r => e35 _ r (s_adv hi (hat z)))))⟩
theorem s_bnd {σ : SS} {k : Nat} {x : Int32} {post : Int32 → SS → Prop} (hk : k < 3) (hf : σ.1 32 ≠ nI 0) (h : ∀ r, post r σ) : f_A_bounded post σ (nI k) x := by
  have e19 : ∀ s, f_A_bounded_19 post σ x s := fun s => b_c (fun _ => h _) (fun _ => s_comp (f := 5) hf (h _))
  exact b_c (fun _ => e19 _) (fun _ => b_c (fun _ => e19 _) (fun _ => ⟨by rw [q_in (by omega)]; omega, e19 _⟩))
theorem s_adB {σ : SS} {k : Nat} {post : Int32 → SS → Prop} (hk : k < 2) (hf : σ.1 32 ≠ nI 0) (h : ∀ r, post r σ) : f_A_addressBits post σ (nI k) := by
  have e42 : ∀ a b, f_A_addressBitsOf_42 post σ a b := fun a b => b_c (fun _ => h _) (fun _ => h _)
  have e31 : ∀ a b s, f_A_addressBitsOf_31 post σ a b s := fun a b s => b_c (fun _ => s_comp (f := 6) hf (e42 _ _)) (fun _ => e42 _ _)
  have eOf : ∀ a b, f_A_addressBitsOf post σ a b := fun a b => b_c (fun _ => b_c (fun _ => e31 _ _ _) (fun _ => b_c (fun _ => e31 _ _ _) (fun _ => e31 _ _ _))) (fun _ => b_c (fun _ => e31 _ _ _) (fun _ => b_c (fun _ => e31 _ _ _) (fun _ => e31 _ _ _)))
  have e76 : ∀ a b, f_A_addressBits_76 post σ a b := fun a b => b_c (fun _ => eOf _ _) (fun _ => b_c (fun _ => eOf _ _) (fun _ => eOf _ _))
  have e51 : ∀ a b s, f_A_addressBits_51 post σ a b s := fun a b s => b_c (fun _ => b_c (fun _ => eOf _ _) (fun _ => e76 _ _)) (fun _ => e76 _ _)
  have e23 : ∀ b s, f_A_addressBits_23 post σ (nI k) b s := by
    intro b s
    refine b_c (fun _ => b_c (fun _ => e51 _ _ _) (fun _ => e51 _ _ _)) (fun _ => ?_)
    rw [show nI k + 1 = nI (k + 1) from q_add k 1]
    exact s_bnd (by omega) hf (fun r => e51 _ _ _)
  exact s_bnd (by omega) hf (fun r => b_c (fun _ => e23 _ _) (fun _ => e23 _ _))
theorem s_opB {σ : SS} {x : Int32} {post : Int32 → SS → Prop} (hf : σ.1 32 ≠ nI 0) (h : ∀ r, post r σ) : f_A_operandBits post σ x := by
  have sk : ∀ {p : Int32 → SS → Prop}, (∀ r, p r σ) → f_A_skipBits p σ := fun hp => b_c (fun _ => hp _) (fun _ => s_bnd (k := 2) (by omega) hf (fun r => hp r))
  refine b_c (fun _ => s_adB (k := 0) (by omega) hf h) (fun _ => b_c (fun _ => s_bnd (k := 0) (by omega) hf (fun r => s_adB (k := 1) (by omega) hf (fun r => h _))) (fun _ => b_c (fun _ => s_bnd (k := 0) (by omega) hf (fun r => s_bnd (k := 1) (by omega) hf (fun r => sk (fun r => h _)))) (fun _ => b_c (fun _ => s_bnd (k := 0) (by omega) hf (fun r => h _)) (fun _ => b_c (fun _ => s_bnd (k := 0) (by omega) hf (fun r => s_bnd (k := 1) (by omega) hf (fun r => h _))) (fun _ => b_c (fun _ => s_bnd (k := 0) (by omega) hf (fun r => h _)) (fun _ => b_c (fun _ => h _) (fun _ => b_c (fun _ => s_bnd (k := 0) (by omega) hf (fun r => h _)) (fun _ => b_c (fun _ => ⟨by rw [q_lit, q_in (by omega)]; omega, h _⟩) (fun _ => h _)))))))))
theorem s_keep {σ : SS} {x : Int32} {post : SS → Prop} (hi : InvC σ) (h : ∀ u, Saf σ u → post u) : f_A_keepWord post σ x := by
  obtain ⟨i1, ⟨m, m1, m2⟩, i3⟩ := id hi
  simp only [f_A_keepWord, nm]
  refine b_c (fun _ => h _ (Saf.refl hi)) (fun z => ?_)
  rw [m2, q_lit, q_le (by omega) (by omega)] at z
  refine ⟨by rw [m2, q_in (by omega)]; omega, by show vp_in (σ.1 26) 3000; rw [m2, q_in (by omega)]; omega, h _ ?_⟩
  refine ⟨⟨i1, ⟨m + 1, by omega, ?_⟩, i3⟩, rfl, rfl, ((((FrA.refl _).sA (by omega) _ _).sA (by omega) _ _).sI (by omega) _)⟩
  show σ.1 26 + nI 1 = nI (m + 1)
  rw [m2, q_add]
theorem s_place {σ : SS} {post : SS → Prop} (hf : σ.1 32 ≠ nI 0) (hi : InvC σ) (h : ∀ u, Saf σ u → post u) : f_A_takePlace post σ := by
  have e15 : f_A_takePlace_15 post σ := h _ ((Saf.refl hi).sI (by omega) _)
  exact b_c (fun _ => e15) (fun _ => s_comp (f := 7) hf e15)
theorem s_move {σ : SS} {x : Int32} {post : SS → Prop} (hf : σ.1 32 ≠ nI 0) (hi : InvC σ) (h : ∀ u, Saf σ u → post u) : f_A_moveLocation post σ x := by
  refine b_c (fun _ => s_bnd (k := 0) (by omega) hf (fun r => h _ ((Saf.refl hi).sI (by omega) _))) (fun _ => ⟨by rw [q_lit, q_in (by omega)]; omega, ?_⟩)
  have s1 : Saf σ (sI σ 30 ((σ.1 30) + (σ.2.1 22 (0 : Int32).toNatClampNeg))) := (Saf.refl hi).sI (by omega) _
  exact b_c (fun _ => h _ s1) (fun _ => s_comp (f := 7) (by rw [s1.2.1]; exact hf) (h _ s1))
theorem s_def {σ : SS} {x : Int64} {post : SS → Prop} (hf : σ.1 32 ≠ nI 0) (hi : InvC σ) (h : ∀ u, Saf σ u → post u) : f_A_define post σ x := by
  have rf := h _ (Saf.refl hi)
  have e43 : ∀ s, f_A_define_43 post σ x s := by
    intro s
    refine b_c (fun _ => ?_) (fun _ => s_comp (f := 4) hf rf)
    obtain ⟨i1, i2, ⟨b, n, hn, hv⟩ | ⟨b, n, hn, hv⟩⟩ := id hi
    · refine b_t b ?_
      refine b_c (fun z => ?_) (fun _ => b_t rfl (s_comp (f := 7) hf rf))
      rw [hv, q_lit, q_lt (by omega) (by omega)] at z
      refine ⟨by rw [hv, q_in (by omega)]; omega, by show vp_in (σ.1 37) 200; rw [hv, q_in (by omega)]; omega, b_f (by decide) (h _ ?_)⟩
      refine ⟨⟨i1, i2, Or.inl ⟨b, n + 1, by omega, ?_⟩⟩, rfl, rfl, fun k a1 a2 a3 a4 a5 a6 a7 a8 a9 => ?_, fun k a1 a2 a3 a4 a5 => ?_, rfl, fun k a1 a2 => ?_, fun _ => ⟨rfl, rfl, rfl⟩, fun z2 => ?_⟩
      · show σ.1 37 + nI 1 = nI (n + 1)
        rw [hv, q_add]
      · rw [sI_1, if_neg a8]; rfl
      · rw [sI_2, sA_2, if_neg a1]; rfl
      · show (sB σ 15 _ x).2.2.2 k = _
        rw [sB_4, if_neg a1]
      · rw [b] at z2; exact absurd z2 (by decide)
    · refine b_f (by rw [b]; decide) ?_
      refine b_c (fun z => ?_) (fun _ => b_t rfl (s_comp (f := 7) hf rf))
      rw [hv, q_lit, q_lt (by omega) (by omega)] at z
      refine ⟨by rw [hv, q_in (by omega)]; omega, by show vp_in (σ.1 38) 200; rw [hv, q_in (by omega)]; omega, b_f (by decide) (h _ ?_)⟩
      refine ⟨⟨i1, i2, Or.inr ⟨b, n + 1, by omega, ?_⟩⟩, rfl, rfl, fun k a1 a2 a3 a4 a5 a6 a7 a8 a9 => ?_, fun k a1 a2 a3 a4 a5 => ?_, rfl, fun k a1 a2 => ?_, fun z2 => ?_, fun _ => ⟨rfl, rfl, rfl⟩⟩
      · show σ.1 38 + nI 1 = nI (n + 1)
        rw [hv, q_add]
      · rw [sI_1, if_neg a9]; rfl
      · rw [sI_2, sA_2, if_neg a2]; rfl
      · show (sB σ 18 _ x).2.2.2 k = _
        rw [sB_4, if_neg a2]
      · rw [b] at z2; exact absurd z2 (by decide)
  refine b_c (fun _ => e43 _) (fun _ => s_giv (fun r => b_c (fun _ => s_named (fun t ht => ⟨ht, b_c (fun _ => s_find hi (fun r => b_c (fun _ => e43 _) (fun _ => e43 _))) (fun _ => e43 _)⟩)) (fun _ => e43 _)))
theorem s_labs {σ : SS} {x : Int32} {post : SS → Prop} (hf : σ.1 32 ≠ nI 0) (hi : InvC σ) (h : ∀ u, Saf σ u → post u) : f_A_readLabels post σ x := by
  have ne : ∀ {u}, Saf σ u → u.1 32 ≠ nI 0 := fun hu => by rw [hu.2.1]; exact hf
  obtain ⟨⟨cnt, a, c1, c2, _, _⟩, _⟩ := id hi
  have L : ∀ k i u, i + k = cnt → Saf σ u → f_A_readLabels_2 post (k + 1) u x (nI i) := by
    intro k
    induction k with
    | zero =>
      intro i u hik hu
      have h35 : u.1 35 = nI cnt := by rw [← c1]; exact hu.2.2.2.1 35 (by omega) (by omega) (by omega) (by omega) (by omega) (by omega) (by omega) (by omega) (by omega)
      rw [f_A_readLabels_2, h35]
      exact b_t (by rw [q_le (by omega) (by omega)]; omega) (h _ hu)
    | succ k ih =>
      intro i u hik hu
      have h35 : u.1 35 = nI cnt := by rw [← c1]; exact hu.2.2.2.1 35 (by omega) (by omega) (by omega) (by omega) (by omega) (by omega) (by omega) (by omega) (by omega)
      have e72 : ∀ w, Saf σ w → f_A_readLabels_72 post (f_A_readLabels_2 post (k + 1)) w x (nI i) := by
        intro w hw
        simp only [f_A_readLabels_72, nm]
        rw [show nI i + 1 = nI (i + 1) from q_add i 1]
        exact ih (i + 1) w (by omega) hw
      rw [f_A_readLabels_2, h35]
      refine b_f (by rw [q_le (by omega) (by omega)]; omega) (s_look (ne hu) hu.1 (fun kd hk hk2 => b_c (fun z => ?_) (fun _ => h _ hu)))
      rw [q_lit, q_eq (by omega) (by omega)] at z
      refine s_name hu.1 (fun r => ?_)
      have h2 := hk2 (by omega)
      have s1 : Saf u (sI u 29 (u.1 29 + nI 1)) := s_adv hu.1 h2
      have s2 := hu.trans s1
      refine s_takes2 (c := 58) (ne s2) s2.1 (by omega) (by omega) (b_t rfl (h _ ?_)) (fun w hw => b_f (by decide) (b_c (fun _ => e72 w (s2.trans hw)) (fun _ => s_def (ne (s2.trans hw)) (s2.trans hw).1 (fun y hy => e72 y ((s2.trans hw).trans hy)))))
      obtain ⟨cnt2, a2, d1, d2, d3, d4⟩ := h2
      rw [sI_sI]
      refine hu.trans ⟨⟨⟨cnt2, a2, d1, d2, ?_, by omega⟩, hu.1.2⟩, rfl, rfl, (FrA.refl _).sI (by omega) _⟩
      show u.1 29 + nI 1 - 1 = nI a2
      rw [d3, q_add, q_lit, q_sub (by omega)]
      rfl
  exact ⟨cnt + 1, L cnt 0 σ (by omega) (Saf.refl hi)⟩
/-- behind the labels -/
def f_lin (post : SS → Prop) (x1 : Int32) (σ_19 : SS) : Prop := f_A_look (fun r_22 σ_21 => br (r_22 = 10) (post σ_21) (br (r_22 = 2) (f_A_readLine_45 post σ_21 x1 r_22) (br (r_22 = 3) (f_A_readLine_45 post σ_21 x1 r_22) (br (r_22 = 43) (f_A_readLine_45 post σ_21 x1 r_22) (br (r_22 = 45) (f_A_readLine_45 post σ_21 x1 r_22) (f_A_complain (fun σ_23 => post σ_23) σ_21 2)))))) σ_19
theorem s_lin {σ : SS} {x : Int32} {post : SS → Prop} (hf : σ.1 32 ≠ nI 0) (hi : InvC σ) (h : ∀ u, Saf σ u → post u) : f_lin post x σ := by
  have ne : ∀ {u}, Saf σ u → u.1 32 ≠ nI 0 := fun hu => by rw [hu.2.1]; exact hf
  have rf := h _ (Saf.refl hi)
  refine s_look hf hi (fun k hk hk2 => b_c (fun _ => rf) (fun z => ?_))
  have hat := hk2 (by intro y; rw [y] at z; exact z rfl)
  have e70 : ∀ t, t < 35 → f_A_readLine_70 post σ x t := by
    intro t ht
    have e86 : f_A_readLine_86 post σ t := s_rS ht hf hi (fun _ => hat) (fun r u hu => ⟨ht, s_move (ne hu) hu.1 (fun w hw => h _ (hu.trans hw))⟩)
    refine ⟨ht, b_c (fun _ => e86) (fun _ => b_c (fun _ => e86) (fun _ => b_c (fun _ => ?_) (fun _ => ?_)))⟩
    · exact s_rS ht hf hi (fun _ => hat) (fun r u hu => s_opB (ne hu) (fun r2 => s_keep hu.1 (fun w hw => s_place (ne (hu.trans hw)) (hu.trans hw).1 (fun y hy => h _ ((hu.trans hw).trans hy)))))
    · exact s_place hf hi h
  have e45 : ∀ k2, f_A_readLine_45 post σ x k2 := fun k2 => b_c (fun _ => s_name hi (fun r => s_named e70)) (fun _ => e70 34 (by omega))
  exact b_c (fun _ => e45 _) (fun _ => b_c (fun _ => e45 _) (fun _ => b_c (fun _ => e45 _) (fun _ => b_c (fun _ => e45 _) (fun _ => s_comp (f := 2) hf rf))))
