/-! the pure side: the reference's statements -/
def FrQ (τ v : SS) : Prop := (∀ k, k ≠ 13 → k ≠ 14 → k ≠ 20 → k ≠ 22 → k ≠ 23 → k ≠ 24 → k ≠ 25 → v.1 k = τ.1 k) ∧ (∀ k, k ≠ 16 → k ≠ 17 → v.2.1 k = τ.2.1 k) ∧ v.2.2.2 = τ.2.2.2 ∧ Zf τ v
theorem FrQ.refl (τ : SS) : FrQ τ τ := ⟨fun _ _ _ _ _ _ _ _ => rfl, fun _ _ _ => rfl, rfl, Zf.refl τ⟩
theorem FrQ.trans {a b c : SS} (h : FrQ a b) (g : FrQ b c) : FrQ a c := ⟨fun k h1 h2 h3 h4 h5 h6 h7 => (g.1 k h1 h2 h3 h4 h5 h6 h7).trans (h.1 k h1 h2 h3 h4 h5 h6 h7), fun k h1 h2 => (g.2.1 k h1 h2).trans (h.2.1 k h1 h2), g.2.2.1.trans h.2.2.1, h.2.2.2.trans g.2.2.2⟩
theorem FrN.frq {a b : SS} (h : FrN a b) : FrQ a b := ⟨fun k h1 h2 h3 h4 h5 _ _ => h.1 k h1 h2 h3 h4 h5, fun k _ _ => by rw [h.2.1], h.2.2.1, h.2.2.2⟩
theorem FrQ.flt {a b : SS} (h : FrQ a b) {f : Nat} (hf : 0 < f) (h8 : f < 8) (v : Int32) : FrQ a (sI (sI b 13 (nI f)) 14 v) := ⟨fun j h1 h2 h3 h4 h5 h6 h7 => by rw [sI_1, if_neg h2, sI_1, if_neg h1]; exact h.1 j h1 h2 h3 h4 h5 h6 h7, h.2.1, h.2.2.1, Zf.flt (f := f) hf h8 rfl⟩
theorem FrQ.sI {a b : SS} (h : FrQ a b) {k : Nat} (hk : k = 20 ∨ k = 22 ∨ k = 23 ∨ k = 24 ∨ k = 25) (v : Int32) : FrQ a (sI b k v) := ⟨fun j h1 h2 h3 h4 h5 h6 h7 => by rw [sI_1, if_neg (by omega)]; exact h.1 j h1 h2 h3 h4 h5 h6 h7, h.2.1, h.2.2.1, h.2.2.2.sI (by omega) (by omega) v⟩
theorem FrQ.sA {a b : SS} (h : FrQ a b) {k : Nat} (hk : k = 16 ∨ k = 17) (i : Nat) (v : Int32) : FrQ a (sA b k i v) := ⟨h.1, fun j h1 h2 => by rw [sA_2, if_neg (by omega)]; exact h.2.1 j h1 h2, h.2.2⟩
theorem FrQ.sL {a b : SS} (h : FrQ a b) (k : Nat) (v : Int64) : FrQ a (sL b k v) := ⟨h.1, h.2.1, h.2.2⟩
theorem FrQ.s {a b : SS} (h : FrQ a b) (k : Nat) (hk : k < 13 ∨ (14 < k ∧ k < 20) ∨ k = 21 ∨ 25 < k) : b.1 k = a.1 k := h.1 k (by omega) (by omega) (by omega) (by omega) (by omega) (by omega) (by omega)
theorem LivR.frq {τ v : SS} {T : Nat → Nat} {len e : Nat} {lb : Lb} {loc : Nat} (h : LivR τ T len e lb loc) (f : FrQ τ v) : LivR v T len e lb loc := by
  obtain ⟨⟨t1, t2, t3⟩, h2, h3, ⟨l1, l2, l3⟩, h5⟩ := h
  obtain ⟨f1, f2, f3, _⟩ := id f
  refine ⟨⟨t1, by rw [f.s 12 (by omega)]; exact t2, by rw [f2 9 (by omega) (by omega)]; exact t3⟩, h2, by rw [f.s 21 (by omega)]; exact h3, ⟨l1, by rw [f.s 16 (by omega)]; exact l2, ?_⟩, by rw [f.s 19 (by omega)]; exact h5⟩
  rw [f2 11 (by omega) (by omega), f3]; exact l3
abbrev As : Type := List (Nat × Nat)
def Asd (v : SS) (as : As) : Prop := v.1 24 = nI as.length ∧ ∀ j, j < as.length → v.2.1 16 j = nI (as.getD j (0, 0)).1 ∧ v.2.1 17 j = nI (as.getD j (0, 0)).2 ∧ (as.getD j (0, 0)).1 < 65536 ∧ (as.getD j (0, 0)).2 < 65536
def QL (τ v : SS) (T : Nat → Nat) (len e : Nat) (lb : Lb) (loc : Nat) (ts : List Tk) (as : As) (o : Nat) : Prop := FrQ τ v ∧ AtR T e ts v ∧ LivR v T len e lb loc ∧ Asd v as ∧ v.1 25 = nI o
def QF (τ v : SS) (f n : Nat) : Prop := FrQ τ v ∧ v.1 13 = nI f ∧ v.1 14 = τ.1 15 ∧ 0 < f ∧ f < 8 ∧ v.1 24 = nI n
theorem QF.ne {τ v : SS} {f n : Nat} (h : QF τ v f n) : ¬ v.1 13 = 0 := by
  obtain ⟨_, h2, _, h5, h6, _⟩ := h
  rw [h2, q_lit, q_eq (by omega) (by omega)]
  omega
theorem AtR.fr {T : Nat → Nat} {e : Nat} {ts : List Tk} {v w : SS} (h : AtR T e ts v) (h13 : w.1 13 = v.1 13) (h20 : w.1 20 = v.1 20) (h22 : w.1 22 = v.1 22) (h23 : w.1 23 = v.1 23) (hl : w.2.2.1 = v.2.2.1) : AtR T e ts w := by
  obtain ⟨a, b⟩ := h
  refine ⟨by rw [h13]; exact a, ?_⟩
  cases ts with
  | nil => show w.1 22 = nI 0; rw [h22]; exact b
  | cons t r =>
    obtain ⟨b1, b2, q, b3, b4⟩ := b
    refine ⟨b1, ?_, q, by rw [h20]; exact b3, b4⟩
    unfold RTk at b2 ⊢
    rw [h22, h23, hl]; exact b2
theorem getD_as {l : As} {c : Nat × Nat} {i : Nat} (h : i < (l ++ [c]).length) : (l ++ [c]).getD i (0, 0) = if i = l.length then c else l.getD i (0, 0) := by
  rw [List.length_append] at h
  simp only [List.length_cons, List.length_nil] at h
  by_cases e : i = l.length
  · subst e; simp
  · rw [if_neg e]
    simp [List.getD, List.getElem?_append_left (show i < l.length by omega)]
section
variable {τ v : SS} {T : Nat → Nat} {len e loc : Nat} {lb : Lb} {ts : List Tk} {as : As} {o : Nat}
theorem r_bnd {most : Nat} {post : Int32 → SS → Prop} (hl : loc < 65536) (h : QL τ v T len e lb loc ts as o) (hn : as.length < 7) (hm : most < 65536)
    (h1 : (exE lb loc ts).1 = 0 → ∀ w, QL τ w T len e lb loc (exE lb loc ts).2.2 (as ++ [(vN (exE lb loc ts).2.1, most)]) o → post (nI (vN (exE lb loc ts).2.1)) w)
    (h2 : ∀ f, f = (exE lb loc ts).1 → ∀ q w, QF τ w f (as.length + 1) → post q w) : f_R_bounded post v (nI most) := by
  obtain ⟨f0, hA, hv, ⟨a1, a2⟩, ho⟩ := h
  refine r_expr hl hA hv (fun z u f1 g1 => ?_) (fun f ef r u hr fl => ?_)
  · obtain ⟨v1, v2⟩ := vN_e (exE lb loc ts).2.1
    have e24 : u.1 24 = nI as.length := by rw [f1.1 24 (by omega) (by omega) (by omega) (by omega) (by omega)]; exact a1
    rw [v1]
    refine ⟨by rw [e24, q_in (by omega)]; omega, ?_⟩
    simp only [nm]
    refine ⟨by show vp_in (u.1 24) 8; rw [e24, q_in (by omega)]; omega, h1 z _ ?_⟩
    refine ⟨((((f0.trans f1.frq).sA (by omega) _ _).sA (by omega) _ _).sI (by omega) _), g1.fr rfl rfl rfl rfl rfl, hv.frq (((f1.frq.sA (by omega) _ _).sA (by omega) _ _).sI (by omega) _), ⟨?_, fun j hj => ?_⟩, ?_⟩
    · show u.1 24 + nI 1 = _
      rw [e24, q_add, List.length_append]; rfl
    · rw [getD_as hj]
      rw [List.length_append, List.length_singleton] at hj
      show (sA (sA u 16 (u.1 24).toNatClampNeg _) 17 (u.1 24).toNatClampNeg _).2.1 16 j = _ ∧ (sA (sA u 16 (u.1 24).toNatClampNeg _) 17 (u.1 24).toNatClampNeg _).2.1 17 j = _ ∧ _
      rw [e24, q_cl (by omega)]
      have r16 : ∀ x y : Int32, (sA (sA u 16 as.length x) 17 as.length y).2.1 16 j = if j = as.length then x else v.2.1 16 j := by
        intro x y
        rw [sA_2, if_neg (by decide), sA_2, if_pos rfl, u_at, f1.2.1]
      have r17 : ∀ x y : Int32, (sA (sA u 16 as.length x) 17 as.length y).2.1 17 j = if j = as.length then y else v.2.1 17 j := by
        intro x y
        rw [sA_2, if_pos rfl, u_at, sA_2, if_neg (show ¬ (17 : Nat) = 16 by decide), f1.2.1]
      rw [r16, r17]
      by_cases c : j = as.length
      · rw [if_pos c, if_pos c, if_pos c]; exact ⟨rfl, rfl, v2, hm⟩
      · rw [if_neg c, if_neg c, if_neg c]; exact a2 j (by omega)
    · show u.1 25 = nI o
      rw [f1.1 25 (by omega) (by omega) (by omega) (by omega) (by omega)]; exact ho
  · obtain ⟨⟨f1, fl2, fl3⟩, fl4, fl5⟩ := fl
    have e24 : u.1 24 = nI as.length := by rw [f1.1 24 (by omega) (by omega) (by omega) (by omega) (by omega)]; exact a1
    refine ⟨by rw [e24, q_in (by omega)]; omega, ?_⟩
    simp only [nm]
    refine ⟨by show vp_in (u.1 24) 8; rw [e24, q_in (by omega)]; omega, h2 f ef _ _ ?_⟩
    refine ⟨((((f0.trans f1.frq).sA (by omega) _ _).sA (by omega) _ _).sI (by omega) _), fl2, ?_, fl4, fl5, ?_⟩
    · show u.1 14 = τ.1 15
      rw [fl3, f0.s 15 (by omega)]
    · show u.1 24 + nI 1 = _
      rw [e24, q_add]
theorem r_bndF {f n : Nat} {x : Int32} {post : Int32 → SS → Prop} (h : QF τ v f n) (hn : n < 7) (k : ∀ q w, QF τ w f (n + 1) → post q w) : f_R_bounded post v x := by
  obtain ⟨f0, f1, f2, f3, f4, f5⟩ := id h
  refine r_exprF h.ne (fun r hr => ⟨by rw [f5, q_in (by omega)]; omega, ?_⟩)
  simp only [nm]
  refine ⟨by show vp_in (v.1 24) 8; rw [f5, q_in (by omega)]; omega, k _ _ ?_⟩
  refine ⟨(((f0.sA (by omega) _ _).sA (by omega) _ _).sI (by omega) _), f1, f2, f3, f4, ?_⟩
  show v.1 24 + nI 1 = _
  rw [f5, q_add]
theorem r_nx {t : Tk} {r : List Tk} {post : Int32 → SS → Prop} (h : QL τ v T len e lb loc (t :: r) as o) (h1 : ∀ w, QL τ w T len e lb loc r as o → post (nI 1) w) (h2 : ∀ s r', r = s :: r' → s.1 = 1 → ∀ w, QF τ w 1 as.length → post (nI 0) w) : f_R_next post v := by
  obtain ⟨f0, hA, hv, ⟨a1, a2⟩, ho⟩ := h
  refine r_go hA hv (fun w f1 g1 => h1 w ⟨f0.trans f1.frq, g1, hv.fr f1, ⟨?_, ?_⟩, ?_⟩) (fun s r' er es w fl => h2 s r' er es w ?_)
  · rw [f1.1 24 (by omega) (by omega) (by omega) (by omega) (by omega)]; exact a1
  · rw [f1.2.1]; exact a2
  · rw [f1.1 25 (by omega) (by omega) (by omega) (by omega) (by omega)]; exact ho
  · obtain ⟨⟨f1, fl2, fl3⟩, fl4, fl5⟩ := fl
    refine ⟨f0.trans f1.frq, fl2, by rw [fl3, f0.s 15 (by omega)], fl4, fl5, ?_⟩
    rw [f1.1 24 (by omega) (by omega) (by omega) (by omega) (by omega)]; exact a1
theorem QL.flt {f : Nat} (h : QL τ v T len e lb loc ts as o) (hf : 0 < f ∧ f < 8) : QF τ (sI (sI v 13 (nI f)) 14 (v.1 15)) f as.length := by
  obtain ⟨f0, hA, hv, ⟨a1, a2⟩, ho⟩ := h
  exact ⟨f0.flt hf.1 hf.2 _, rfl, by show v.1 15 = τ.1 15; exact f0.s 15 (by omega), hf.1, hf.2, a1⟩
theorem r_comma {post : SS → Prop} (h : QL τ v T len e lb loc ts as o) (h1 : ∀ t r, ts = t :: r → t.1 = 44 → ∀ w, QL τ w T len e lb loc r as o → post w) (h2 : ∀ t s r, ts = t :: s :: r → t.1 = 44 → s.1 = 1 → ∀ w, QF τ w 1 as.length → post w) (h3 : (ts = [] ∨ ∃ t r, ts = t :: r ∧ t.1 ≠ 44) → ∀ w, QF τ w 2 as.length → post w) : f_R_comma post v := by
  refine b_t h.2.1.1 (r_sign (c := 44) h.2.1 (by omega) (fun t r et ec _ => b_f (by decide) ?_) (fun z => b_t rfl ?_))
  · subst et
    refine r_nx h (fun w hw => h1 t r rfl ec w hw) (fun s r' er es w hw => ?_)
    subst er
    exact h2 t s r' rfl ec es w hw
  · have fl := h.flt (f := 2) (by omega)
    refine r_stop h.2.1.1 (r_nextF fl.ne (h3 ?_ _ fl))
    rcases z with z | ⟨t, r, er, z⟩
    · exact Or.inl z
    · rcases z with z | z
      · exact Or.inr ⟨t, r, er, z⟩
      · exact absurd (by unfold sgn; omega) z
theorem r_commaF {f n : Nat} {post : SS → Prop} (h : QF τ v f n) (k : post v) : f_R_comma post v := b_f h.ne k
/-- behind an address -/
theorem r_54F {f n : Nat} {x1 x2 x3 : Int32} {post : Int32 → SS → Prop} (h : QF τ v f n) (k : ∀ q w, QF τ w f n → post q w) : f_R_address_54 post v x1 x2 x3 := by
  obtain ⟨f0, f1, f2, f3, f4, f5⟩ := id h
  have fin : ∀ (a b s : Int32), bz s → f_R_address_157 post v a b s s → True := fun _ _ _ _ _ => trivial
  have e157 : ∀ (a b c s : Int32), bz s → f_R_address_157 post v a b c s := fun a b c s hs => ⟨hs, k _ _ ⟨f0.sI (by omega) _, f1, f2, f3, f4, f5⟩⟩
  have e113 : ∀ (a b c s : Int32), bz s → f_R_address_113 post v a b c s := fun a b c s hs => ⟨hs, k _ _ ⟨f0.sI (by omega) _, f1, f2, f3, f4, f5⟩⟩
  have b0 : bz (0 : Int32) := Or.inl rfl
  have b1 : bz (1 : Int32) := Or.inr rfl
  have e88 : ∀ (a b c : Int32), f_R_address_88 post v a b c := fun a b c => b_c (fun _ => b_c (fun _ => b_t rfl (e113 _ _ _ _ b1)) (fun _ => b_c (fun _ => b_t rfl (e113 _ _ _ _ b1)) (fun _ => b_f (by decide) (e113 _ _ _ _ b0)))) (fun _ => e113 _ _ _ _ b0)
  have e73 : ∀ (a b s : Int32), f_R_address_73 post v a b s := fun a b s => b_c (fun _ => e88 _ _ _) (fun _ => e88 _ _ _)
  exact b_c (fun _ => b_c (fun _ => b_c (fun _ => e157 _ _ _ _ b0) (fun _ => e157 _ _ _ _ b1)) (fun _ => b_c (fun _ => e157 _ _ _ _ b0) (fun _ => b_c (fun _ => e157 _ _ _ _ b0) (fun _ => e157 _ _ _ _ b1)))) (fun _ => b_c (fun _ => e73 _ _ _) (fun _ => e73 _ _ _))
theorem QL.out (h : QL τ v T len e lb loc ts as o) (o' : Nat) : QL τ (sI v 25 (nI o')) T len e lb loc ts as o' := by
  obtain ⟨f0, hA, hv, ⟨a1, a2⟩, ho⟩ := h
  exact ⟨f0.sI (by omega) _, hA.fr rfl rfl rfl rfl rfl, hv.frq ((FrQ.refl v).sI (by omega) _), ⟨a1, a2⟩, rfl⟩
theorem r_160 {ind m d : Nat} {x3 x4 : Int32} (h3 : x3 &&& 3 = nI m) (h4 : x4 &&& 255 = nI d) : (nI (1024 * ind) + (256 * (x3 &&& 3))) + (x4 &&& 255) = nI (1024 * ind + 256 * m + d) := by
  rw [h3, h4, q_lit, q_mul, q_add, q_add]
theorem r_54N {ind x : Nat} {post : Int32 → SS → Prop} (hx : x < 65536) (hl : loc ≤ 32768) (h : QL τ v T len e lb loc ts as o)
    (k : ∀ w, QL τ w T len e lb loc ts as (if x < 256 then 0 else if loc ≤ x + 128 ∧ x ≤ loc + 127 then 0 else 1) → post (nI (if x < 256 then 1024 * ind + x else 1024 * ind + 256 + (x + 65536 - loc) % 256)) w) : f_R_address_54 post v (nI (1024 * ind)) (nI x) (-1) := by
  have h19 := h.2.2.1.2.2.2.2
  refine b_f (by decide) ?_
  by_cases c : x < 256
  · rw [if_pos c, if_pos c] at k
    refine b_f (by rw [q_lit, q_le (by omega) (by omega)]; omega) (b_t rfl (b_f (by decide) ⟨Or.inl rfl, ?_⟩))
    have := k _ (h.out 0)
    show post ((nI (1024 * ind) + (256 * ((0 : Int32) &&& 3))) + (nI x &&& 255)) _
    rw [r_160 (m := 0) (d := x) (by decide) (by rw [q_lit, q_and, q_a255]; exact congrArg nI (by omega))]
    exact this
  · rw [if_neg c, if_neg c] at k
    refine b_t (by rw [q_lit, q_le (by omega) (by omega)]; omega) (b_f (by decide) (b_t rfl ?_))
    have fin : ∀ s : Nat, (s = if loc ≤ x + 128 ∧ x ≤ loc + 127 then 0 else 1) → bz (nI s) → f_R_address_113 post v (nI (1024 * ind)) 1 (nI x - v.1 19) (nI s) := by
      intro s hs hb
      refine ⟨hb, ?_⟩
      rw [← hs] at k
      have := k _ (h.out s)
      show post ((nI (1024 * ind) + (256 * ((1 : Int32) &&& 3))) + ((nI x - v.1 19) &&& 255)) _
      rw [h19, r_160 (m := 1) (d := (x + 65536 - loc) % 256) (by decide) (sgd3 hx (by omega))]
      exact this
    show f_R_within _ v (nI x - v.1 19) (-128) 127
    have fin1 := fin 1
    have fin0 := fin 0
    unfold f_R_within
    rw [h19] at fin1 fin0 ⊢
    rw [sgd1 hx (by omega), sgd2 hx (by omega)]
    refine b_c (fun y => b_t rfl (fin1 ?_ (Or.inr rfl))) (fun y => b_c (fun w => b_t rfl (fin1 ?_ (Or.inr rfl))) (fun w => b_f (by decide) (fin0 ?_ (Or.inl rfl))))
    · rw [if_neg (by omega)]
    · rw [if_neg (by omega)]
    · rw [if_pos (by omega)]
theorem r_54M {ind x m : Nat} {post : Int32 → SS → Prop} (hx : x < 65536) (hm : m < 65536) (h : QL τ v T len e lb loc ts as o)
    (k : ∀ w, QL τ w T len e lb loc ts as (if (m = 0 ∧ x ≤ 255) ∨ (m ≠ 0 ∧ (x ≤ 127 ∨ 65408 ≤ x)) then 0 else 1) → post (nI (1024 * ind + 256 * (m % 4) + x % 256)) w) : f_R_address_54 post v (nI (1024 * ind)) (nI x) (nI m) := by
  have fin : ∀ s : Nat, (s = if (m = 0 ∧ x ≤ 255) ∨ (m ≠ 0 ∧ (x ≤ 127 ∨ 65408 ≤ x)) then 0 else 1) → bz (nI s) → f_R_address_157 post v (nI (1024 * ind)) (nI m) (nI x) (nI s) := by
    intro s hs hb
    refine ⟨hb, ?_⟩
    rw [← hs] at k
    have := k _ (h.out s)
    show post ((nI (1024 * ind) + (256 * (nI m &&& 3))) + (nI x &&& 255)) _
    rw [r_160 (m := m % 4) (d := x % 256) (by rw [q_lit, q_and, q_a3]) (by rw [q_lit, q_and, q_a255])]
    exact this
  have fin1 := fin 1
  have fin0 := fin 0
  refine b_t (by rw [q_lit, q_le (by omega) (by omega)]; omega) (b_c (fun z => ?_) (fun z => ?_))
  · rw [q_lit, q_eq (by omega) (by omega)] at z
    refine b_c (fun y => fin0 ?_ (Or.inl rfl)) (fun y => fin1 ?_ (Or.inr rfl))
    · rw [q_lit, q_le (by omega) (by omega)] at y
      rw [if_pos (by omega)]
    · rw [q_lit, q_le (by omega) (by omega)] at y
      rw [if_neg (by omega)]
  · rw [q_lit, q_eq (by omega) (by omega)] at z
    refine b_c (fun y => fin0 ?_ (Or.inl rfl)) (fun y => b_c (fun w => fin0 ?_ (Or.inl rfl)) (fun w => fin1 ?_ (Or.inr rfl)))
    · rw [q_lit, q_le (by omega) (by omega)] at y
      rw [if_pos (by omega)]
    · rw [q_lit, q_le (by omega) (by omega)] at w
      rw [if_pos (by omega)]
    · rw [q_lit, q_le (by omega) (by omega)] at y w
      rw [if_neg (by omega)]
theorem r_20F {f n : Nat} {x1 : Int32} {post : Int32 → SS → Prop} (h : QF τ v f n) (k : ∀ q w, QF τ w f n → post q w) : f_R_address_20 post v x1 := r_exprF h.ne (fun r hr => b_f h.ne (r_54F h k))
theorem r_adrF {f n : Nat} {post : Int32 → SS → Prop} (h : QF τ v f n) (k : ∀ q w, QF τ w f n → post q w) : f_R_address post v := r_signF (fun r => b_c (fun _ => r_20F h k) (fun _ => r_nextF h.ne (r_20F h k)))
/-- an address from its expression on -/
theorem r_20 {ind : Nat} {post : Int32 → SS → Prop} (hl : loc ≤ 32768) (h : QL τ v T len e lb loc ts as o) (hn : as.length < 6)
    (hA : (exE lb loc ts).1 = 0 → ((exE lb loc ts).2.2 = [] ∨ ∃ t r, (exE lb loc ts).2.2 = t :: r ∧ t.1 ≠ 44) → ∀ w, QL τ w T len e lb loc (exE lb loc ts).2.2 as (if vN (exE lb loc ts).2.1 < 256 then 0 else if loc ≤ vN (exE lb loc ts).2.1 + 128 ∧ vN (exE lb loc ts).2.1 ≤ loc + 127 then 0 else 1) → post (nI (if vN (exE lb loc ts).2.1 < 256 then 1024 * ind + vN (exE lb loc ts).2.1 else 1024 * ind + 256 + (vN (exE lb loc ts).2.1 + 65536 - loc) % 256)) w)
    (hB : (exE lb loc ts).1 = 0 → ∀ t r, (exE lb loc ts).2.2 = t :: r → t.1 = 44 → (exE lb loc r).1 = 0 → ∀ w, QL τ w T len e lb loc (exE lb loc r).2.2 (as ++ [(vN (exE lb loc r).2.1, 3)]) (if (vN (exE lb loc r).2.1 = 0 ∧ vN (exE lb loc ts).2.1 ≤ 255) ∨ (vN (exE lb loc r).2.1 ≠ 0 ∧ (vN (exE lb loc ts).2.1 ≤ 127 ∨ 65408 ≤ vN (exE lb loc ts).2.1)) then 0 else 1) → post (nI (1024 * ind + 256 * (vN (exE lb loc r).2.1 % 4) + vN (exE lb loc ts).2.1 % 256)) w)
    (hF : ∀ g, ((exE lb loc ts).1 = g ∨ ((exE lb loc ts).1 = 0 ∧ ∃ t r, (exE lb loc ts).2.2 = t :: r ∧ t.1 = 44 ∧ (exE lb loc r).1 = g)) → ∀ q w n, n < 7 → QF τ w g n → post q w) : f_R_address_20 post v (nI (1024 * ind)) := by
  obtain ⟨f0, hAt, hv, ⟨a1, a2⟩, ho⟩ := id h
  obtain ⟨v1, v2⟩ := vN_e (exE lb loc ts).2.1
  refine r_expr (by omega) hAt hv (fun z u f1 g1 => ?_) (fun f ef r u hr fl => ?_)
  · rw [v1]
    have hu : QL τ u T len e lb loc (exE lb loc ts).2.2 as o := ⟨f0.trans f1.frq, g1, hv.fr f1, ⟨by rw [f1.1 24 (by omega) (by omega) (by omega) (by omega) (by omega)]; exact a1, by rw [f1.2.1]; exact a2⟩, by rw [f1.1 25 (by omega) (by omega) (by omega) (by omega) (by omega)]; exact ho⟩
    refine b_t g1.1 (r_sign (c := 44) g1 (by omega) (fun t r et ec _ => b_f (by decide) ?_) (fun y => b_t rfl ?_))
    · rw [et] at hu
      refine r_nx hu (fun w hw => ?_) (fun s r' er es w hw => ?_)
      · refine r_bnd (most := 3) (by omega) hw (by omega) (by omega) (fun z2 w2 hw2 => ?_) (fun f ef q w2 hw2 => ?_)
        · exact r_54M v2 (vN_e _).2 hw2 (fun w3 hw3 => hB z t r et ec z2 w3 hw3)
        · exact r_54F hw2 (fun q w3 hw3 => hF f (Or.inr ⟨z, t, r, et, ec, ef.symm⟩) q w3 _ (by omega) hw3)
      · refine r_bndF hw (by omega) (fun q w2 hw2 => r_54F hw2 (fun q w3 hw3 => hF 1 (Or.inr ⟨z, t, r, et, ec, ?_⟩) q w3 _ (by omega) hw3))
        rw [er]; exact exE_bad es
    · refine r_54N v2 hl hu (fun w hw => hA z ?_ w hw)
      rcases y with y | ⟨t, r, er, y⟩
      · exact Or.inl y
      · rcases y with y | y
        · exact Or.inr ⟨t, r, er, y⟩
        · exact absurd (by unfold sgn; omega) y
  · obtain ⟨⟨f1, fl2, fl3⟩, fl4, fl5⟩ := id fl
    have hq : QF τ u f as.length := ⟨f0.trans f1.frq, fl2, by rw [fl3, f0.s 15 (by omega)], fl4, fl5, by rw [f1.1 24 (by omega) (by omega) (by omega) (by omega) (by omega)]; exact a1⟩
    exact b_f hq.ne (r_54F hq (fun q w hw => hF f (Or.inl ef.symm) q w _ (by omega) hw))
end
