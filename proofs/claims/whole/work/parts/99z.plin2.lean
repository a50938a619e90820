/-! the pure side: a line behind its labels, the class -/
/-- .LOC and .BLK: a fault, the place -/
def mvG (lb : Lb) (loc f : Nat) (ts : List Tk) : Nat × Nat := if (rd lb loc f ts).1 = 0 then (if f = 0 then (if 32767 < (rd lb loc f ts).2.2.getD 0 0 then (5, loc) else (0, (rd lb loc f ts).2.2.getD 0 0)) else (if 32768 < loc + (rd lb loc f ts).2.2.getD 0 0 then (7, loc) else (0, loc + (rd lb loc f ts).2.2.getD 0 0))) else ((rd lb loc f ts).1, loc)
def wdL (lb : Lb) (loc : Nat) (t : Tk) (r : List Tk) : Nat × Nat := if t.1 = 2 ∧ stN t.2.2 ≠ 34 then stG lb loc (fmN (stN t.2.2)) (bsN (stN t.2.2) t.2.2) r else stB lb loc 10 0 (t :: r)
abbrev Ws : Type := List (Nat × Nat)
def isM (t : Tk) : Prop := t.1 = 2 ∧ stN t.2.2 < 2
def isW (t : Tk) : Prop := ¬ isM t ∧ (t.1 = 2 ∨ t.1 = 3 ∨ t.1 = 43 ∨ t.1 = 45)
/-- a line behind its labels: a fault, the place, words -/
def tlG (p : Nat) (lb : Lb) (loc : Nat) (ts : List Tk) : Nat × Nat × Ws := match ts with
  | [] => (0, loc, [])
  | t :: r => if t.1 = 2 ∧ stN t.2.2 < 2 then ((mvG lb loc (stN t.2.2) r).1, (mvG lb loc (stN t.2.2) r).2, []) else if t.1 = 2 ∨ t.1 = 3 ∨ t.1 = 43 ∨ t.1 = 45 then (if p = 1 then (if loc < 32768 then 0 else 7, loc + 1, []) else ((wdL lb loc t r).1, loc + 1, [(loc, (wdL lb loc t r).2)])) else (2, loc, [])
theorem tlG_M {p : Nat} {lb : Lb} {loc : Nat} {t : Tk} {r : List Tk} (h : isM t) : tlG p lb loc (t :: r) = ((mvG lb loc (stN t.2.2) r).1, (mvG lb loc (stN t.2.2) r).2, []) := by
  show (if t.1 = 2 ∧ stN t.2.2 < 2 then _ else _) = _
  rw [if_pos (show t.1 = 2 ∧ stN t.2.2 < 2 from h)]
theorem tlG_W {p : Nat} {lb : Lb} {loc : Nat} {t : Tk} {r : List Tk} (h : isW t) : tlG p lb loc (t :: r) = if p = 1 then (if loc < 32768 then 0 else 7, loc + 1, []) else ((wdL lb loc t r).1, loc + 1, [(loc, (wdL lb loc t r).2)]) := by
  show (if t.1 = 2 ∧ stN t.2.2 < 2 then _ else if t.1 = 2 ∨ t.1 = 3 ∨ t.1 = 43 ∨ t.1 = 45 then _ else _) = _
  rw [if_neg (show ¬ (t.1 = 2 ∧ stN t.2.2 < 2) from h.1), if_pos h.2]
theorem tlG_N {p : Nat} {lb : Lb} {loc : Nat} {t : Tk} {r : List Tk} (h : ¬ (t.1 = 2 ∨ t.1 = 3 ∨ t.1 = 43 ∨ t.1 = 45)) : tlG p lb loc (t :: r) = (2, loc, []) := by
  show (if t.1 = 2 ∧ stN t.2.2 < 2 then _ else if t.1 = 2 ∨ t.1 = 3 ∨ t.1 = 43 ∨ t.1 = 45 then _ else _) = _
  rw [if_neg (by omega), if_neg h]
/-- words made, as the class keeps them -/
def MdC (σ : SS) (ws : Ws) : Prop := ws.length ≤ 3000 ∧ σ.1 26 = nI ws.length ∧ ∀ i, i < ws.length → σ.2.1 20 i = nI (ws.getD i (0, 0)).1 ∧ σ.2.1 21 i = nI (ws.getD i (0, 0)).2
theorem MdC.fr {σ u : SS} {ws : Ws} (h : MdC σ ws) (h26 : u.1 26 = σ.1 26) (h20 : u.2.1 20 = σ.2.1 20) (h21 : u.2.1 21 = σ.2.1 21) : MdC u ws := by
  obtain ⟨a, b, c⟩ := h
  exact ⟨a, by rw [h26]; exact b, by rw [h20, h21]; exact c⟩
theorem FrM.md {σ u : SS} {ws : Ws} (f : FrM σ u) (h : MdC σ ws) : MdC u ws := h.fr f.2.1 f.2.2.1 f.2.2.2.1
theorem FrO.md {σ u : SS} {ws : Ws} (f : FrO σ u) (h : MdC σ ws) : MdC u ws := h.fr (f.1 26 (by omega) (by omega) (by omega)) (f.2.1 20 (by omega)) (f.2.1 21 (by omega))
/-- at the end of a line -/
def LnC (σ u : SS) (lb : Lb) (loc : Nat) (ws : Ws) : Prop := FrA σ u ∧ u.1 32 = nI 0 ∧ LbC u lb ∧ u.1 30 = nI loc ∧ MdC u ws ∧ u.1 33 = σ.1 33
theorem fm_01 : ∀ e, e < 35 → (fmN e = 0 ↔ e = 0) ∧ (fmN e = 1 ↔ e = 1) := by decide +kernel
theorem bOK_10 : bOK 10 0 := by
  refine ⟨by omega, by omega, by omega, by omega, by omega, by omega, by omega, by omega⟩
section
variable {σ : SS} {lb : Lb} {loc : Nat} {ws : Ws} {post : SS → Prop}
theorem c_mv0 {vs : List Nat} {ind : Nat} {u : SS} (fr : FrO σ u) (inv : InvC u) (hop : OpV u ind vs) (hlen : 1 ≤ vs.length) (hv : LivC σ lb loc) (hM : MdC σ ws)
    (h1 : vs.getD 0 0 ≤ 32767 → ∀ w, LnC σ w lb (vs.getD 0 0) ws → post w) (h2 : 32767 < vs.getD 0 0 → ∀ w, FltC σ 5 w → post w) : f_A_moveLocation post u (nI 0) := by
  have lv := hv.fro fr
  refine b_t rfl (c_bnd (k := 0) (hi := 32767) hop (by omega) (by omega) (by omega) lv.1 inv (fun z => h1 z _ ?_) (fun z q w hw => h2 z _ ?_))
  · exact ⟨fr.fr.sI (by omega) _, lv.1, lv.2.2.1, rfl, fr.md hM, fr.1 33 (by omega) (by omega) (by omega)⟩
  · have := FltC.fro fr hw
    exact this.saf ((Saf.refl this.1).sI (by omega) _)
theorem c_mv1 {vs : List Nat} {ind : Nat} {u : SS} (hl : loc ≤ 32768) (fr : FrO σ u) (inv : InvC u) (hop : OpV u ind vs) (hlen : 1 ≤ vs.length) (hv : LivC σ lb loc) (hM : MdC σ ws)
    (h1 : ¬ 32768 < loc + vs.getD 0 0 → ∀ w, LnC σ w lb (loc + vs.getD 0 0) ws → post w) (h2 : 32768 < loc + vs.getD 0 0 → ∀ w, FltC σ 7 w → post w) : f_A_moveLocation post u (nI 1) := by
  have lv := hv.fro fr
  obtain ⟨o1, o2⟩ := hop.2.2 0 (by omega)
  refine b_f (by decide) ⟨by rw [q_lit, q_in (by omega)]; omega, ?_⟩
  have e : (σ : SS) → u.1 30 + u.2.1 22 (0 : Int32).toNatClampNeg = nI (loc + vs.getD 0 0) := by
    intro _
    rw [show (0 : Int32).toNatClampNeg = 0 by decide, o1, lv.2.2.2, q_add]
  simp only [nm]
  rw [e σ]
  have fa : FrA σ (sI u 30 (nI (loc + vs.getD 0 0))) := fr.fr.sI (by omega) _
  have iv : InvC (sI u 30 (nI (loc + vs.getD 0 0))) := inv
  refine b_c (fun z => ?_) (fun z => ?_)
  · have z' : nI (loc + vs.getD 0 0) ≤ 32768 := z
    rw [q_lit, q_le (by omega) (by omega)] at z'
    exact h1 (by omega) _ ⟨fa, lv.1, lv.2.2.1, rfl, fr.md hM, fr.1 33 (by omega) (by omega) (by omega)⟩
  · have z' : ¬ nI (loc + vs.getD 0 0) ≤ 32768 := z
    rw [q_lit, q_le (by omega) (by omega)] at z'
    exact c_comp lv.1 (h2 (by omega) _ (FltC.fra fa (c_flt iv (by omega))))
theorem c_place {u : SS} (hl : loc ≤ 32768) (fa : FrA σ u) (h33 : u.1 33 = σ.1 33) (inv : InvC u) (h32 : u.1 32 = nI 0) (hL : LbC u lb) (h30 : u.1 30 = nI loc) (hM : MdC u ws)
    (h1 : loc < 32768 → ∀ w, LnC σ w lb (loc + 1) ws → post w) (h2 : ¬ loc < 32768 → ∀ w, FltC σ 7 w → post w) : f_A_takePlace post u := by
  refine b_c (fun z => ?_) (fun z => ?_)
  · rw [h30, q_lit, q_lt (by omega) (by omega)] at z
    refine h1 z _ ⟨fa.sI (by omega) _, h32, hL, ?_, hM, h33⟩
    show u.1 30 + nI 1 = nI (loc + 1)
    rw [h30, q_add]
  · rw [h30, q_lit, q_lt (by omega) (by omega)] at z
    have fl := FltC.fra fa (c_flt (f := 7) inv (by omega))
    exact c_comp h32 (h2 z _ (fl.saf ((Saf.refl fl.1).sI (by omega) _)))
theorem getD_ws {l : Ws} {c : Nat × Nat} {i : Nat} (h : i < (l ++ [c]).length) : (l ++ [c]).getD i (0, 0) = if i = l.length then c else l.getD i (0, 0) := getD_as h
/-- a word kept, its place taken -/
theorem c_kp {u : SS} {x : Nat} (hl : loc < 32768) (hw : ws.length < 3000) (fa : FrA σ u) (h33 : u.1 33 = σ.1 33) (inv : InvC u) (h32 : u.1 32 = nI 0) (hL : LbC u lb) (h30 : u.1 30 = nI loc) (hM : MdC u ws)
    (h1 : ∀ w, LnC σ w lb (loc + 1) (ws ++ [(loc, x)]) → post w) : f_A_keepWord (fun σ_13 => f_A_readLine_132 post σ_13) u (nI x) := by
  obtain ⟨m1, m2, m3⟩ := id hM
  simp only [f_A_keepWord, nm]
  refine b_f (by rw [m2, q_lit, q_le (by omega) (by omega)]; omega) ⟨by rw [m2, q_in (by omega)]; omega, by show vp_in (u.1 26) 3000; rw [m2, q_in (by omega)]; omega, ?_⟩
  refine c_place (σ := σ) (lb := lb) (ws := ws ++ [(loc, x)]) (by omega) (((fa.sA (by omega) _ _).sA (by omega) _ _).sI (by omega) _) h33 ?_ h32 hL h30 ?_ (fun _ w hw => h1 w hw) (fun z => absurd hl z)
  · obtain ⟨i1, i2, i3⟩ := inv
    refine ⟨i1, ⟨ws.length + 1, by omega, ?_⟩, i3⟩
    show u.1 26 + nI 1 = nI (ws.length + 1)
    rw [m2, q_add]
  · refine ⟨by rw [List.length_append, List.length_singleton]; omega, ?_, fun i hi => ?_⟩
    · show u.1 26 + nI 1 = _
      rw [m2, q_add, List.length_append]; rfl
    · rw [getD_ws hi]
      rw [List.length_append, List.length_singleton] at hi
      show (sA (sA u 20 (u.1 26).toNatClampNeg (u.1 30)) 21 (u.1 26).toNatClampNeg (nI x)).2.1 20 i = _ ∧ (sA (sA u 20 (u.1 26).toNatClampNeg (u.1 30)) 21 (u.1 26).toNatClampNeg (nI x)).2.1 21 i = _
      rw [m2, q_cl (by omega), h30]
      have r20 : (sA (sA u 20 ws.length (nI loc)) 21 ws.length (nI x)).2.1 20 i = if i = ws.length then nI loc else u.2.1 20 i := by
        rw [sA_2, if_neg (by decide), sA_2, if_pos rfl, u_at]
      have r21 : (sA (sA u 20 ws.length (nI loc)) 21 ws.length (nI x)).2.1 21 i = if i = ws.length then nI x else u.2.1 21 i := by
        rw [sA_2, if_pos rfl, u_at, sA_2, if_neg (show ¬ (21 : Nat) = 20 by decide)]
      rw [r20, r21]
      by_cases c : i = ws.length
      · rw [if_pos c, if_pos c, if_pos c]; exact ⟨rfl, rfl⟩
      · rw [if_neg c, if_neg c, if_neg c]; exact m3 i (by omega)
theorem s_kp {u : SS} {x : Int32} {f : Nat} (hf : FltC σ f u) (h : ∀ w, FltC σ f w → post w) : f_A_keepWord (fun σ_13 => f_A_readLine_132 post σ_13) u x := s_keep hf.1 (fun w hw => s_place (hf.saf hw).ne (hf.saf hw).1 (fun y hy => h y ((hf.saf hw).saf hy)))
/-- a statement that makes a word -/
theorem c_wS {e : Nat} {t : Tk} {r : List Tk} (he : e = stN t.2.2) (he2 : 2 ≤ e) (he3 : e < 34) (hl : loc < 32768) (hw : ws.length < 3000) (hA : AtC σ (t :: r)) (ht : t.1 = 2) (hv : LivC σ lb loc) (nb : nbT r) (hM : MdC σ ws)
    (h1 : (stG lb loc (fmN e) (bsN e t.2.2) r).1 = 0 → ∀ w, LnC σ w lb (loc + 1) (ws ++ [(loc, (stG lb loc (fmN e) (bsN e t.2.2) r).2)]) → post w) (h2 : ∀ f, f = (stG lb loc (fmN e) (bsN e t.2.2) r).1 → ∀ w, FltC σ f w → post w) : f_A_readStatement (fun r_10 σ_9 => f_A_operandBits (fun r_12 σ_11 => f_A_keepWord (fun σ_13 => f_A_readLine_132 post σ_13) σ_11 (((eS_bits e) ||| r_10) ||| r_12)) σ_9 (eS_form e)) σ e := by
  have ok := hA.1 t List.mem_cons_self
  have cl := stN_cls (it_name ok ht).2
  rw [← he] at cl
  have fbn : fbN e t.2.2 ≠ 4294967295 := by rcases cl.2.2.1 with z | z; exact z; omega
  have hh : (hsh (fmN e) r).1 = 0 ∨ ((hsh (fmN e) r).1 = 8 ∧ fmN e = 4) := by
    cases r with
    | nil => exact Or.inl rfl
    | cons s r' =>
      by_cases c : fmN e = 4 ∧ s.1 = 35
      · rw [hsh_1 c]; exact Or.inr ⟨rfl, c.1⟩
      · rw [hsh_0 (fun _ _ e' => by cases e'; exact c)]; exact Or.inl rfl
  obtain ⟨b1, b2⟩ := bOK_e he3 he2 fbn hh
  unfold stG stB at h1 h2
  refine c_rS he3 (by omega) hA ht hv nb (fun z u fu au ou => ?_) (fun f ef q u hu => ?_)
  · rw [if_pos z] at h1 h2
    have lv := hv.fro fu
    have inv := au.inv lv.2.1 lv.2.2.1
    obtain ⟨l1, l2, l3⟩ := rd_len z
    rw [(eS_F e (by omega)).1]
    refine c_opB (fm_le e (by omega)) ou l3 l1 l2 (by omega) lv.2.2.2 lv.1 inv b2 (fun y r' er => ?_) (fun g eg q w hw' => ?_)
    · rw [(eS_N e (by omega)).2.1, q_or, b1, er]
      exact c_kp hl hw fu.fr (fu.1 33 (by omega) (by omega) (by omega)) inv lv.1 lv.2.2.1 lv.2.2.2 (fu.md hM) (fun w hw' => h1 y w hw')
    · exact s_kp (FltC.fro fu hw') (fun y hy => h2 g eg y hy)
  · have gp := hu.2.2.2.2.1
    rw [if_neg (by omega)] at h2
    exact s_opB hu.ne (fun r2 => s_kp hu (fun y hy => h2 f ef y hy))
/-- a word that is an expression -/
theorem c_wE {ts : List Tk} (hl : loc < 32768) (hw : ws.length < 3000) (hA : AtC σ ts) (hv : LivC σ lb loc) (hM : MdC σ ws)
    (h1 : (stB lb loc 10 0 ts).1 = 0 → ∀ w, LnC σ w lb (loc + 1) (ws ++ [(loc, (stB lb loc 10 0 ts).2)]) → post w) (h2 : ∀ f, f = (stB lb loc 10 0 ts).1 → ∀ w, FltC σ f w → post w) : f_A_readStatement (fun r_10 σ_9 => f_A_operandBits (fun r_12 σ_11 => f_A_keepWord (fun σ_13 => f_A_readLine_132 post σ_13) σ_11 (((eS_bits 34) ||| r_10) ||| r_12)) σ_9 (eS_form 34)) σ 34 := by
  unfold stB at h1 h2
  refine c_rW (by omega) hA hv (fun z u fu au ou => ?_) (fun f ef q u hu => ?_)
  · rw [if_pos z] at h1 h2
    have lv := hv.fro fu
    have inv := au.inv lv.2.1 lv.2.2.1
    obtain ⟨l1, l2, l3⟩ := rd_len z
    rw [(eS_F 34 (by omega)).1]
    refine c_opB (f := 10) (by omega) ou l3 l1 l2 (by omega) lv.2.2.2 lv.1 inv bOK_10 (fun y r' er => ?_) (fun g eg q w hw' => ?_)
    · rw [show eS_bits 34 ||| nI 0 = nI 0 by decide, er]
      exact c_kp hl hw fu.fr (fu.1 33 (by omega) (by omega) (by omega)) inv lv.1 lv.2.2.1 lv.2.2.2 (fu.md hM) (fun w hw' => h1 y w hw')
    · exact s_kp (FltC.fro fu hw') (fun y hy => h2 g eg y hy)
  · have gp := hu.2.2.2.2.1
    rw [if_neg (by omega)] at h2
    exact s_opB hu.ne (fun r2 => s_kp hu (fun y hy => h2 f ef y hy))
/-- .LOC and .BLK -/
theorem c_mvL {e : Nat} {t : Tk} {r : List Tk} (he : e < 2) (hl : loc ≤ 32768) (hA : AtC σ (t :: r)) (ht : t.1 = 2) (hv : LivC σ lb loc) (nb : nbT r) (hM : MdC σ ws)
    (h1 : (mvG lb loc e r).1 = 0 → ∀ w, LnC σ w lb (mvG lb loc e r).2 ws → post w) (h2 : ∀ f, f = (mvG lb loc e r).1 → ∀ w, FltC σ f w → post w) : f_A_readLine_86 post σ e := by
  have e0 : hsh (fmN e) r = (0, r) := by
    refine hsh_0 (fun t' r' e' k => ?_)
    have := fm_01 e (by omega)
    omega
  have ef : fmN e = e := by
    have := fm_01 e (by omega)
    rcases (by omega : e = 0 ∨ e = 1) with z | z <;> omega
  have elr : leN e = 1 := by rcases (by omega : e = 0 ∨ e = 1) with z | z <;> subst z <;> rfl
  unfold mvG at h1 h2
  refine c_rS (by omega) (by omega) hA ht hv nb ?_ ?_
  · rw [e0, ef]
    intro z u fu au ou
    have z : (rd lb loc e r).1 = 0 := z
    have ou : OpV u (rd lb loc e r).2.1 (rd lb loc e r).2.2 := ou
    rw [if_pos z] at h1 h2
    have lv := hv.fro fu
    have inv := au.inv lv.2.1 lv.2.2.1
    obtain ⟨l1, l2, l3⟩ := rd_len z
    refine ⟨by omega, ?_⟩
    rw [(eS_F e (by omega)).1, ef]
    by_cases c : e = 0
    · rw [if_pos c] at h1 h2
      rw [c] at h1 h2 ⊢
      subst c
      refine c_mv0 fu inv ou (by omega) hv hM (fun y w hw => ?_) (fun y w hw => ?_)
      · rw [if_neg (by omega)] at h1; exact h1 rfl w hw
      · rw [if_pos y] at h2; exact h2 5 rfl w hw
    · obtain rfl : e = 1 := by omega
      rw [if_neg c] at h1 h2
      refine c_mv1 hl fu inv ou (by omega) hv hM (fun y w hw => ?_) (fun y w hw => ?_)
      · rw [if_neg y] at h1; exact h1 rfl w hw
      · rw [if_pos y] at h2; exact h2 7 rfl w hw
  · rw [e0, ef]
    intro f efl q u hu
    have efl : f = (rd lb loc e r).1 := efl
    have gp := hu.2.2.2.2.1
    rw [if_neg (by omega)] at h2
    refine ⟨by omega, s_move hu.ne hu.1 (fun w hw => h2 f efl w (hu.saf hw))⟩
theorem c_tail {p : Nat} {ts : List Tk} (hp : p ≤ 1) (hl : loc ≤ 32768) (hA : AtC σ ts) (hv : LivC σ lb loc) (ok : okLn ts) (hM : MdC σ ws) (hw : p = 0 → ∀ t r, ts = t :: r → isW t → loc < 32768 ∧ ws.length < 3000)
    (h1 : (tlG p lb loc ts).1 = 0 → ∀ w, LnC σ w lb (tlG p lb loc ts).2.1 (ws ++ (tlG p lb loc ts).2.2) → post w) (h2 : ∀ f, f = (tlG p lb loc ts).1 → f ≠ 0 → ∀ w, FltC σ f w → post w) : f_lin post (nI p) σ := by
  have inv := hA.inv hv.2.1 hv.2.2.1
  have h2' : ∀ f, f = (tlG p lb loc ts).1 → ∀ w, FltC σ f w → post w := fun f ef w hw => h2 f ef (by have := hw.2.2.2.2.1; omega) w hw
  refine c_look hA hv.1 (fun z => ?_) (fun t r er okt z => ?_) (fun t r er z => absurd z (ok.1 t r er))
  · subst z
    refine b_t rfl (h1 rfl σ ⟨FrA.refl σ, hv.1, hv.2.2.1, hv.2.2.2, ?_, rfl⟩)
    show MdC σ (ws ++ [])
    rw [List.append_nil]; exact hM
  · subst er
    have kl := (kind_e okt).2.2
    have n10 : ¬ nI t.1 = 10 := by
      rw [q_lit, q_eq (by omega) (by omega)]
      unfold okT sgn at okt
      omega
    have word : ∀ e, e < 35 → ¬ e < 2 → isW t → (p = 0 → f_A_readStatement (fun r_10 σ_9 => f_A_operandBits (fun r_12 σ_11 => f_A_keepWord (fun σ_13 => f_A_readLine_132 post σ_13) σ_11 (((eS_bits e) ||| r_10) ||| r_12)) σ_9 (eS_form e)) σ e) → f_A_readLine_70 post σ (nI p) e := by
      intro e he he2 iw hp0
      have ff := fm_01 e he
      have fl := fm_le e he
      refine ⟨he, ?_⟩
      have f0 : ¬ eS_form e = 0 := by rw [(eS_F e he).1, q_lit, q_eq (by omega) (by omega)]; omega
      have f1 : ¬ eS_form e = 1 := by rw [(eS_F e he).1, q_lit, q_eq (by omega) (by omega)]; omega
      refine b_f f0 (b_f f1 (b_c (fun k => ?_) (fun k => ?_)))
      · rw [q_lit, q_eq (by omega) (by omega)] at k
        exact hp0 k
      · rw [q_lit, q_eq (by omega) (by omega)] at k
        rw [tlG_W iw, if_pos (show p = 1 by omega)] at h1 h2
        refine c_place (σ := σ) hl (FrA.refl σ) rfl inv hv.1 hv.2.2.1 hv.2.2.2 hM (fun y w hw => ?_) (fun y w hw => ?_)
        · rw [if_pos y] at h1
          refine h1 rfl w ?_
          show LnC σ w lb (loc + 1) (ws ++ [])
          rw [List.append_nil]; exact hw
        · rw [if_neg y] at h2
          exact h2 7 rfl (by omega) w hw
    have e34 : isW t → ¬ (t.1 = 2 ∧ stN t.2.2 ≠ 34) → f_A_readLine_70 post σ (nI p) 34 := by
      intro iw nn
      refine word 34 (by omega) (by omega) iw (fun p0 => ?_)
      obtain ⟨w1, w2⟩ := hw p0 t r rfl iw
      rw [tlG_W iw, if_neg (show ¬ p = 1 by omega)] at h1 h2'
      unfold wdL at h1 h2'
      rw [if_neg nn] at h1 h2'
      exact c_wE w1 w2 hA hv hM h1 h2'
    by_cases k2 : t.1 = 2
    · rw [k2]
      obtain ⟨e1, e2⟩ := it_name okt k2
      have cl := stN_cls e2
      obtain ⟨nb1, _⟩ := ok.2 t r rfl k2
      refine b_f (by decide) (b_t rfl (b_t rfl (c_nameAt hA ?_)))
      rw [e1]
      refine c_named e2 cl.1 cl.2.1 cl.2.2.1 ?_
      by_cases m : stN t.2.2 < 2
      · have im : isM t := ⟨k2, m⟩
        rw [tlG_M im] at h1 h2'
        have e86 : f_A_readLine_86 post σ (stN t.2.2) := c_mvL m hl hA k2 hv nb1 hM (fun z w hw => by
          refine h1 z w ?_
          show LnC σ w lb _ (ws ++ [])
          rw [List.append_nil]; exact hw) h2'
        have ff := fm_01 _ cl.1
        refine ⟨cl.1, ?_⟩
        rw [(eS_F _ cl.1).1]
        by_cases c : stN t.2.2 = 0
        · exact b_t (by rw [ff.1.mpr c]; rfl) e86
        · exact b_f (by rw [q_lit, q_eq (by have := fm_le _ cl.1; omega) (by omega)]; omega) (b_t (by rw [ff.2.mpr (by omega)]; rfl) e86)
      · have iw : isW t := ⟨fun k => m k.2, Or.inl k2⟩
        by_cases c34 : stN t.2.2 = 34
        · rw [c34]
          exact e34 iw (fun k => k.2 c34)
        · refine word _ cl.1 m iw (fun p0 => ?_)
          obtain ⟨w1, w2⟩ := hw p0 t r rfl iw
          rw [tlG_W iw, if_neg (show ¬ p = 1 by omega)] at h1 h2'
          unfold wdL at h1 h2'
          rw [if_pos ⟨k2, c34⟩] at h1 h2'
          exact c_wS rfl (by omega) (by have := cl.1; omega) w1 w2 hA k2 hv nb1 hM h1 h2'
    · have n2 : ¬ nI t.1 = 2 := by rw [q_lit, q_eq (by omega) (by omega)]; exact k2
      by_cases iw : t.1 = 3 ∨ t.1 = 43 ∨ t.1 = 45
      · have iw' : isW t := ⟨fun k => k2 k.1, Or.inr iw⟩
        have e45 : f_A_readLine_45 post σ (nI p) (nI t.1) := b_f n2 (e34 iw' (fun k => k2 k.1))
        refine b_f n10 (b_f n2 (b_c (fun _ => e45) (fun k3 => b_c (fun _ => e45) (fun k43 => b_c (fun _ => e45) (fun k45 => ?_)))))
        rw [q_lit, q_eq (by omega) (by omega)] at k3 k43 k45
        omega
      · rw [tlG_N (by omega)] at h2
        refine b_f n10 (b_f n2 (b_f ?_ (b_f ?_ (b_f ?_ (c_comp hv.1 (h2 2 rfl (by omega) _ (c_flt inv (by omega)))))))) <;> rw [q_lit, q_eq (by omega) (by omega)] <;> omega
/-- a line: a fault, labels, the place, words -/
def lnG (p : Nat) (lb : Lb) (loc : Nat) (ts : List Tk) : Nat × Lb × Nat × Ws := if (labs p loc lb ts).1 = 0 then ((tlG p (labs p loc lb ts).2.1 loc (labs p loc lb ts).2.2).1, (labs p loc lb ts).2.1, (tlG p (labs p loc lb ts).2.1 loc (labs p loc lb ts).2.2).2) else ((labs p loc lb ts).1, lb, loc, [])
theorem c_line {p : Nat} {ts : List Tk} (hp : p ≤ 1) (hl : loc ≤ 32768) (hA : AtC σ ts) (hv : LivC σ lb loc) (hM : MdC σ ws) (hw : p = 0 → ∀ t r, (labs p loc lb ts).2.2 = t :: r → isW t → loc < 32768 ∧ ws.length < 3000)
    (h1 : (lnG p lb loc ts).1 = 0 → ∀ w, LnC σ w (lnG p lb loc ts).2.1 (lnG p lb loc ts).2.2.1 (ws ++ (lnG p lb loc ts).2.2.2) → post w) (h2 : ∀ f, f = (lnG p lb loc ts).1 → f ≠ 0 → ∀ w, FltC σ f w → post w) : f_A_readLine post σ (nI p) := by
  obtain ⟨_, a, cnt, g2, g3, g4, g5, _⟩ := id hA
  have main : f_A_readLabels_2 (fun u => f_lin post (nI p) u) (cnt - 0 + 1) σ (nI p) (nI 0) := by
    refine c_labs (σ0 := σ) (cnt := cnt) (by omega) hp g4 ts.length ts σ lb 0 (Nat.le_refl _) (by omega) (FrM.refl σ) hA hv g3 (fun z u fu au lu => ?_) (fun f ef nf u hu => ?_)
    · unfold lnG at h1 h2
      rw [if_pos z] at h1 h2
      refine c_tail hp hl au lu (labs_ok _ _ _ (Nat.le_refl _) z) (fu.md hM) hw (fun y w hw' => h1 y w ?_) (fun f ef nf w hw' => h2 f ef nf w (FltC.fra fu.1 hw'))
      obtain ⟨a1, a2, a3, a4, a5, a6⟩ := hw'
      exact ⟨fu.1.trans a1, a2, a3, a4, a5, a6.trans fu.2.2.2.2⟩
    · unfold lnG at h2
      rw [if_neg (by omega)] at h2
      exact s_lin hu.ne hu.1 (fun w hw' => h2 f ef nf w (hu.saf hw'))
  exact ⟨_, main⟩
end
