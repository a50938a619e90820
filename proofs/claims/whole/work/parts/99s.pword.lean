/-! the pure side: a statement's word, the class -/
theorem rdO_len {lb : Lb} {loc ad le : Nat} : ∀ (n i : Nat) (ts : List Tk) (ind : Nat) (vs : List Nat), vs.length = i → ind ≤ 1 → (i ≤ ad → ind = 0) → (rdO lb loc ad le n i ts ind vs).1 = 0 → le ≤ (rdO lb loc ad le n i ts ind vs).2.2.length ∧ (rdO lb loc ad le n i ts ind vs).2.2.length ≤ i + n ∧ (rdO lb loc ad le n i ts ind vs).2.1 ≤ 1 := by
  have fi : ∀ (i n : Nat) (ts : List Tk) (ind : Nat) (vs : List Nat), vs.length ≤ i + n → ind ≤ 1 → (fiO le ts ind vs).1 = 0 → le ≤ (fiO le ts ind vs).2.2.length ∧ (fiO le ts ind vs).2.2.length ≤ i + n ∧ (fiO le ts ind vs).2.1 ≤ 1 := by
    intro i n ts ind vs hvs hi h
    unfold fiO at h ⊢
    by_cases c : vs.length < le ∨ ts ≠ []
    · rw [if_pos c] at h; exact absurd (show (2 : Nat) = 0 from h) (by omega)
    · refine ⟨?_, hvs, hi⟩
      show le ≤ vs.length
      have : ¬ vs.length < le := fun z => c (Or.inl z)
      omega
  intro n
  induction n with
  | zero => intro i ts ind vs hvs hi _ h; exact fi i 0 ts ind vs (by omega) hi h
  | succ n IH =>
    intro i ts ind vs hvs hi hia h
    rw [rdO_s] at h ⊢
    by_cases z : (opE lb loc (if i = ad then 1 else 0) ts).1 = 0
    · rw [if_pos z] at h ⊢
      have k1 : ind + (opE lb loc (if i = ad then 1 else 0) ts).2.1 ≤ 1 ∧ (i + 1 ≤ ad → ind + (opE lb loc (if i = ad then 1 else 0) ts).2.1 = 0) := by
        by_cases c : i = ad
        · refine ⟨?_, fun _ => by omega⟩
          rw [hia (by omega), if_pos c]
          cases ts with
          | nil => exact Nat.zero_le _
          | cons t r =>
            by_cases c2 : (1 : Nat) = 1 ∧ t.1 = 64
            · rw [opE_1 c2]; exact Nat.le_refl _
            · rw [opE_0 (fun t' r' e => by cases e; exact c2)]; exact Nat.zero_le _
        · rw [if_neg c, opE_0 (fun _ _ _ w => by omega)]
          exact ⟨hi, fun k => hia (by omega)⟩
      revert h k1
      generalize (opE lb loc (if i = ad then 1 else 0) ts).2.2.2 = rest
      generalize ind + (opE lb loc (if i = ad then 1 else 0) ts).2.1 = ind2
      generalize hvs2 : vs ++ [vN (opE lb loc (if i = ad then 1 else 0) ts).2.2.1] = vs2
      intro h k1
      have lvs : vs2.length = i + 1 := by rw [← hvs2, List.length_append, List.length_singleton]; omega
      unfold rdM at h ⊢
      by_cases c : n = 0
      · rw [if_pos c] at h ⊢
        exact fi i (n + 1) rest ind2 vs2 (by omega) k1.1 h
      · rw [if_neg c] at h ⊢
        cases rest with
        | nil => exact fi i (n + 1) [] ind2 vs2 (by omega) k1.1 h
        | cons t r =>
          by_cases c2 : t.1 = 44
          · have e2 : ∀ X Y : Nat × Nat × List Nat, (if t.1 = 44 then X else Y) = X := fun X Y => if_pos c2
            simp only [e2] at h ⊢
            have := IH (i + 1) r ind2 vs2 lvs k1.1 k1.2 h
            omega
          · have e2 : ∀ X Y : Nat × Nat × List Nat, (if t.1 = 44 then X else Y) = Y := fun X Y => if_neg c2
            simp only [e2] at h ⊢
            exact fi i (n + 1) (t :: r) ind2 vs2 (by omega) k1.1 h
    · rw [if_neg z] at h
      exact absurd h z
theorem rd_len {lb : Lb} {loc f : Nat} {ts : List Tk} (h : (rd lb loc f ts).1 = 0) : leN f ≤ (rd lb loc f ts).2.2.length ∧ (rd lb loc f ts).2.2.length ≤ moN f ∧ (rd lb loc f ts).2.1 ≤ 1 := by
  have := rdO_len (moN f) 0 ts 0 [] rfl (by omega) (fun _ => rfl) h
  unfold rd
  omega
/-- bits of an address -/
def adW (ind loc e hm m : Nat) : Nat × Nat := if hm = 0 then (if e < 256 then (0, 1024 * ind + e) else if loc ≤ e + 128 ∧ e ≤ loc + 127 then (0, 1024 * ind + 256 + (e + 65536 - loc) % 256) else (6, 0)) else if 3 < m then (5, 0) else if (m = 0 ∧ e ≤ 255) ∨ (m ≠ 0 ∧ (e ≤ 127 ∨ 65408 ≤ e)) then (0, 1024 * ind + 256 * m + e % 256) else (6, 0)
/-- a statement's word: its fault, its bits -/
def wd (f b ind loc : Nat) (vs : List Nat) : Nat × Nat :=
  if f = 2 then ((adW ind loc (vs.getD 0 0) (vs.length - 1) (vs.getD 1 0)).1, b + (adW ind loc (vs.getD 0 0) (vs.length - 1) (vs.getD 1 0)).2)
  else if f = 3 then (if 3 < vs.getD 0 0 then (5, 0) else ((adW ind loc (vs.getD 1 0) (vs.length - 2) (vs.getD 2 0)).1, b + 2048 * vs.getD 0 0 + (adW ind loc (vs.getD 1 0) (vs.length - 2) (vs.getD 2 0)).2))
  else if f = 4 then (if 3 < vs.getD 0 0 ∨ 3 < vs.getD 1 0 ∨ (2 < vs.length ∧ 7 < vs.getD 2 0) then (5, 0) else (0, b + 8192 * vs.getD 0 0 + 2048 * vs.getD 1 0 + (if 2 < vs.length then vs.getD 2 0 else 0)))
  else if f = 5 ∨ f = 7 then (if 63 < vs.getD 0 0 then (5, 0) else (0, b + vs.getD 0 0))
  else if f = 6 then (if 3 < vs.getD 0 0 ∨ 63 < vs.getD 1 0 then (5, 0) else (0, b + 2048 * vs.getD 0 0 + vs.getD 1 0))
  else if f = 9 then (if 3 < vs.getD 0 0 then (5, 0) else (0, b + 2048 * vs.getD 0 0))
  else if f = 10 then (0, vs.getD 0 0)
  else (0, b)
theorem q_lt_I {x : Int32} {a : Int} {y : Int32} {b : Int} (h : x.toInt = a) (g : y.toInt = b) : (x < y) = (a < b) := by
  rw [← h, ← g]; exact propext Int32.lt_iff_toInt_lt
theorem sgd_e {e loc : Nat} (he : e < 65536) (hl : loc ≤ 65536) : (nI e - nI loc).toInt = (e : Int) - loc := by
  by_cases c : loc ≤ e
  · rw [q_sub c, nI_toInt (by omega)]; omega
  · rw [q_subN (by omega) (by omega)]
    show (Int32.ofNat _).toInt = _
    rw [Int32.toInt_ofNat']
    show ((_ : Nat) : Int).bmod 4294967296 = _
    rw [Int.bmod_def]
    omega
theorem sgd1 {e loc : Nat} (he : e < 65536) (hl : loc ≤ 65536) : (nI e - nI loc < -128) = (e + 128 < loc) := by
  rw [q_lt_I (sgd_e he hl) (show (-128 : Int32).toInt = -128 by decide)]
  exact propext ⟨fun h => by omega, fun h => by omega⟩
theorem sgd2 {e loc : Nat} (he : e < 65536) (hl : loc ≤ 65536) : (127 < nI e - nI loc) = (loc + 127 < e) := by
  rw [q_lt_I (show (127 : Int32).toInt = 127 by decide) (sgd_e he hl)]
  exact propext ⟨fun h => by omega, fun h => by omega⟩
theorem sgd3 {e loc : Nat} (he : e < 65536) (hl : loc ≤ 65536) : (nI e - nI loc) &&& 255 = nI ((e + 65536 - loc) % 256) := by
  by_cases c : loc ≤ e
  · rw [q_sub c, q_lit, q_and, q_a255]; exact congrArg nI (by omega)
  · rw [q_subN (by omega) (by omega), q_lit, q_and, q_a255]; exact congrArg nI (by omega)
theorem or_adr {ind m d : Nat} (hi : ind ≤ 1) (hm : m ≤ 3) (hd : d < 256) : ((nI (1024 * ind) ||| (nI m <<< ((8 : Int32) &&& 31))) ||| nI d) = nI (1024 * ind + 256 * m + d) := by
  rw [q_lit, q_lit, q_and, show 8 &&& 31 = 8 from rfl, q_shl (by omega), q_or, q_or]
  have e1 : 1024 * ind ||| m * 2 ^ 8 = 1024 * ind + 256 * m := by
    have := or_add 10 ind (b := m * 2 ^ 8) (by omega)
    rw [show ind * 2 ^ 10 = 1024 * ind by omega] at this
    rw [this]; omega
  rw [e1]
  have := or_add 8 (4 * ind + m) (b := d) (by omega)
  rw [show (4 * ind + m) * 2 ^ 8 = 1024 * ind + 256 * m by omega] at this
  rw [this]
/-- the class's address: mode and displacement -/
theorem c_abo {σ : SS} {ind m d : Nat} {x : Int32} {post : Int32 → SS → Prop} (h28 : σ.1 28 = nI ind) (hi : ind ≤ 1) (hm : m ≤ 3) (h0 : σ.1 32 = nI 0) (inv : InvC σ) (hx : x &&& 255 = nI d) (hd : d < 256) {ok : Prop} (hok : br (nI m = 0) (br (x < 0) (¬ ok) (br (255 < x) (¬ ok) ok)) (br (x < (-128)) (¬ ok) (br (127 < x) (¬ ok) ok))) (h1 : ok → post (nI (1024 * ind + 256 * m + d)) σ) (h2 : ¬ ok → ∀ q u, FltC σ 6 u → post q u) : f_A_addressBitsOf post σ (nI m) x := by
  have fl := c_flt (f := 6) inv (by omega)
  have good : ok → f_A_addressBitsOf_31 post σ (nI m) x 1 := by
    intro k
    refine b_f (by decide) ?_
    have e := or_adr hi hm hd
    show br (σ.1 28 = 0) _ _
    rw [h28]
    by_cases c : ind = 0
    · subst c
      refine b_t rfl ?_
      show post ((0 ||| (nI m <<< ((8 : Int32) &&& 31))) ||| (x &&& 255)) σ
      rw [hx, show (0 : Int32) = nI (1024 * 0) from rfl, e]
      exact h1 k
    · obtain rfl : ind = 1 := by omega
      refine b_f (by decide) ?_
      show post ((1024 ||| (nI m <<< ((8 : Int32) &&& 31))) ||| (x &&& 255)) σ
      rw [hx, show (1024 : Int32) = nI (1024 * 1) from rfl, e]
      exact h1 k
  have bad : ¬ ok → f_A_addressBitsOf_31 post σ (nI m) x 0 := fun k => b_t rfl (c_comp h0 (b_c (fun _ => h2 k _ _ fl) (fun _ => h2 k _ _ fl)))
  refine b_c (fun z => ?_) (fun z => ?_)
  · have hok := hok.1 z
    exact b_c (fun y => bad (hok.1 y)) (fun y => b_c (fun w => bad ((hok.2 y).1 w)) (fun w => good ((hok.2 y).2 w)))
  · have hok := hok.2 z
    exact b_c (fun y => bad (hok.1 y)) (fun y => b_c (fun w => bad ((hok.2 y).1 w)) (fun w => good ((hok.2 y).2 w)))
theorem c_bnd {σ : SS} {ind k hi : Nat} {vs : List Nat} {post : Int32 → SS → Prop} (hop : OpV σ ind vs) (hk : k < vs.length) (hk3 : k < 3) (hh : hi < 65536) (h0 : σ.1 32 = nI 0) (inv : InvC σ) (h1 : vs.getD k 0 ≤ hi → post (nI (vs.getD k 0)) σ) (h2 : hi < vs.getD k 0 → ∀ q u, FltC σ 5 u → post q u) : f_A_bounded post σ (nI k) (nI hi) := by
  obtain ⟨v1, v2⟩ := hop.2.2 k hk
  refine b_f (by rw [q_lit, q_lt (by omega) (by omega)]; omega) (b_f (by rw [q_lit, q_le (by omega) (by omega)]; omega) ⟨by rw [q_in (by omega)]; omega, ?_⟩)
  rw [q_cl (by omega), v1]
  refine b_c (fun z => h1 ?_) (fun z => c_comp h0 (h2 ?_ _ _ (c_flt inv (by omega))))
  · rw [q_le (by omega) (by omega)] at z; exact z
  · rw [q_le (by omega) (by omega)] at z; omega
theorem c_adB {σ : SS} {ind k loc : Nat} {vs : List Nat} {post : Int32 → SS → Prop} (hop : OpV σ ind vs) (hi : ind ≤ 1) (hk : k < vs.length) (hk2 : k < 2) (h3 : vs.length ≤ k + 2) (hl : loc ≤ 32768) (h30 : σ.1 30 = nI loc) (h0 : σ.1 32 = nI 0) (inv : InvC σ)
    (h1 : (adW ind loc (vs.getD k 0) (vs.length - (k + 1)) (vs.getD (k + 1) 0)).1 = 0 → post (nI (adW ind loc (vs.getD k 0) (vs.length - (k + 1)) (vs.getD (k + 1) 0)).2) σ)
    (h2 : ∀ f, f = (adW ind loc (vs.getD k 0) (vs.length - (k + 1)) (vs.getD (k + 1) 0)).1 → ∀ q u, FltC σ f u → post q u) : f_A_addressBits post σ (nI k) := by
  obtain ⟨v1, v2⟩ := hop.2.2 k hk
  refine c_bnd (hi := 65535) hop hk (by omega) (by omega) h0 inv (fun _ => ?_) (fun z => absurd z (by omega))
  rw [hop.2.1, show nI k + 1 = nI (k + 1) from q_add k 1]
  have m76 : ∀ m, m ≤ 3 → (((m = 0 ∧ vs.getD k 0 ≤ 255) ∨ (m ≠ 0 ∧ (vs.getD k 0 ≤ 127 ∨ 65408 ≤ vs.getD k 0))) → post (nI (1024 * ind + 256 * m + vs.getD k 0 % 256)) σ) → (¬ ((m = 0 ∧ vs.getD k 0 ≤ 255) ∨ (m ≠ 0 ∧ (vs.getD k 0 ≤ 127 ∨ 65408 ≤ vs.getD k 0))) → ∀ q u, FltC σ 6 u → post q u) → f_A_addressBits_76 post σ (nI (vs.getD k 0)) (nI m) := by
    intro m hm g1 g2
    have low : (m = 0 ∨ vs.getD k 0 < 32768) → f_A_addressBits_100 post σ (nI (vs.getD k 0)) (nI m) := by
      intro y
      refine c_abo hop.1 hi hm h0 inv (d := vs.getD k 0 % 256) (by rw [q_lit, q_and, q_a255]) (by omega) (b_c (fun z => ?_) (fun z => ?_)) g1 g2
      · rw [q_lit, q_eq (by omega) (by omega)] at z
        refine b_f (by rw [q_lit, q_lt (by omega) (by omega)]; omega) (b_c (fun w => ?_) (fun w => ?_))
        · rw [q_lit, q_lt (by omega) (by omega)] at w; omega
        · rw [q_lit, q_lt (by omega) (by omega)] at w; omega
      · rw [q_lit, q_eq (by omega) (by omega)] at z
        have e0 : nI (vs.getD k 0) = nI (vs.getD k 0) - nI 0 := by rw [q_sub (by omega)]; rfl
        rw [e0, sgd1 v2 (by omega), sgd2 v2 (by omega)]
        exact b_f (by omega) (b_c (fun w => by omega) (fun w => by omega))
    refine b_c (fun z => low ?_) (fun z => b_c (fun w => low ?_) (fun w => ?_))
    · rw [q_lit, q_eq (by omega) (by omega)] at z; exact Or.inl z
    · rw [q_lit, q_lt (by omega) (by omega)] at w; exact Or.inr w
    · rw [q_lit, q_eq (by omega) (by omega)] at z
      rw [q_lit, q_lt (by omega) (by omega)] at w
      have e0 : nI (vs.getD k 0) - 65535 - 1 = nI (vs.getD k 0) - nI 65536 := by rw [Int32.sub_sub]; rfl
      rw [e0]
      refine c_abo hop.1 hi hm h0 inv (d := vs.getD k 0 % 256) (by rw [sgd3 v2 (by omega)]; exact congrArg nI (by omega)) (by omega) (b_f (by rw [q_lit, q_eq (by omega) (by omega)]; omega) ?_) g1 g2
      rw [sgd1 v2 (by omega), sgd2 v2 (by omega)]
      exact b_c (fun w => by omega) (fun w => b_f (by omega) (by omega))
  unfold adW at h1 h2
  by_cases c : vs.length ≤ k + 1
  · refine b_t (by rw [q_le (by omega) (by omega)]; exact c) (b_t rfl ?_)
    rw [if_pos (show vs.length - (k + 1) = 0 by omega)] at h1 h2
    by_cases c2 : vs.getD k 0 < 256
    · rw [if_pos c2] at h1
      refine b_f (by rw [q_lit, q_le (by omega) (by omega)]; omega) (b_t rfl (b_f (by decide) ?_))
      refine m76 0 (by omega) (fun _ => ?_) (fun z => absurd (Or.inl ⟨rfl, by omega⟩) z)
      have := h1 rfl
      rw [show 1024 * ind + 256 * 0 + vs.getD k 0 % 256 = 1024 * ind + vs.getD k 0 by omega]
      exact this
    · rw [if_neg c2] at h1 h2
      refine b_t (by rw [q_lit, q_le (by omega) (by omega)]; omega) (b_t rfl (b_t rfl ?_))
      rw [h30]
      refine c_abo (m := 1) (ok := loc ≤ vs.getD k 0 + 128 ∧ vs.getD k 0 ≤ loc + 127) hop.1 hi (by omega) h0 inv (sgd3 v2 (by omega)) (by omega) (b_f (by decide) ?_) (fun y => ?_) (fun y q u hu => ?_)
      · rw [sgd1 v2 (by omega), sgd2 v2 (by omega)]
        exact b_c (fun w => by omega) (fun w => b_c (fun w => by omega) (fun w => by omega))
      · rw [if_pos y] at h1
        exact h1 rfl
      · rw [if_neg y] at h2
        exact h2 6 rfl q u hu
  · refine b_f (by rw [q_le (by omega) (by omega)]; exact c) (b_f (by decide) ?_)
    rw [if_neg (show ¬ vs.length - (k + 1) = 0 by omega)] at h1 h2
    rw [show nI k + 1 = nI (k + 1) from q_add k 1]
    refine c_bnd (hi := 3) hop (by omega) (by omega) (by omega) h0 inv (fun z => ?_) (fun z q u hu => ?_)
    · rw [if_neg (by omega)] at h1 h2
      refine b_f (by decide) (m76 _ z (fun y => ?_) (fun y q u hu => ?_))
      · rw [if_pos y] at h1
        exact h1 rfl
      · rw [if_neg y] at h2
        exact h2 6 rfl q u hu
    · rw [if_pos z] at h2
      have ne := hu.ne
      have h5 : ∀ q', post q' u := fun q' => h2 5 rfl q' u hu
      have e42 : ∀ a b, f_A_addressBitsOf_42 post u a b := fun a b => b_c (fun _ => h5 _) (fun _ => h5 _)
      have e31 : ∀ a b s, f_A_addressBitsOf_31 post u a b s := fun a b s => b_c (fun _ => s_comp (f := 6) ne (e42 _ _)) (fun _ => e42 _ _)
      have eOf : ∀ a b, f_A_addressBitsOf post u a b := fun a b => b_c (fun _ => b_c (fun _ => e31 _ _ _) (fun _ => b_c (fun _ => e31 _ _ _) (fun _ => e31 _ _ _))) (fun _ => b_c (fun _ => e31 _ _ _) (fun _ => b_c (fun _ => e31 _ _ _) (fun _ => e31 _ _ _)))
      have e76 : ∀ a b, f_A_addressBits_76 post u a b := fun a b => b_c (fun _ => eOf _ _) (fun _ => b_c (fun _ => eOf _ _) (fun _ => eOf _ _))
      exact b_c (fun _ => b_c (fun _ => eOf _ _) (fun _ => e76 _ _)) (fun _ => e76 _ _)
