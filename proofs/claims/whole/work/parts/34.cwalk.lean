/-! the class, walked: part 5 -/
abbrev r_A_readStatement : Room := { frames := 5, cells := 0, slots := 0, locals := 119 }
def f_A_readStatement_167 (post : Int32 → SS → Prop) (σ : SS) (x2 : Int32) : Prop := f_A_complain (fun σ_1 => post x2 σ_1) σ 2
def f_A_readStatement_147 (post : Int32 → SS → Prop) (σ : SS) (x1 : Nat) (x2 : Int32) : Prop := (x1 < 35) ∧ f_S_leastOperands (fun r_5 σ_4 => br ((σ.1 27) < r_5) (f_A_readStatement_167 post σ_4 x2) (f_A_look (fun r_7 σ_6 => br (r_7 = 10) (post x2 σ_6) (f_A_readStatement_167 post σ_6 x2)) σ_4)) σ x1
def f_A_readStatement_122 (post : Int32 → SS → Prop) (k79 : SS → Nat → Int32 → Int32 → Int32 → Prop) (σ : SS) (x1 : Nat) (x2 : Int32) (x3 : Int32) (x4 : Int32) : Prop := f_A_readExpression (fun r_9 σ_8 => vp_in x4 3 ∧ nm (sA σ_8 22 x4.toNatClampNeg r_9) fun σ_10 => nm (sI σ_10 27 (x4 + 1)) fun σ_11 => nm (x4 + 1) fun x4_12 => k79 σ_11 x1 x2 x3 x4_12) σ
def f_A_readStatement_99 (post : Int32 → SS → Prop) (k79 : SS → Nat → Int32 → Int32 → Int32 → Prop) (σ : SS) (x1 : Nat) (x2 : Int32) (x3 : Int32) (x4 : Int32) : Prop := (x1 < 35) ∧ f_S_addressOperand (fun r_15 σ_14 => br (x4 = r_15) (f_A_takes (fun r_17 σ_16 => br (r_17 = 0) (f_A_readStatement_122 post k79 σ_16 x1 x2 x3 x4) (nm (sI σ_16 28 1) fun σ_18 => f_A_readStatement_122 post k79 σ_18 x1 x2 x3 x4)) σ_14 64) (f_A_readStatement_122 post k79 σ_14 x1 x2 x3 x4)) σ x1
def f_A_readStatement_79 (post : Int32 → SS → Prop) : Nat → SS → Nat → Int32 → Int32 → Int32 → Prop
  | 0, _, _, _, _, _ => False
  | n + 1, σ, x1, x2, x3, x4 => br (x3 ≤ x4) (f_A_readStatement_147 post σ x1 x2) (br (x4 = 0) (f_A_readStatement_99 post (f_A_readStatement_79 post n) σ x1 x2 x3 x4) (f_A_takes (fun r_20 σ_19 => br (r_20 = 0) (f_A_readStatement_147 post σ_19 x1 x2) (f_A_readStatement_99 post (f_A_readStatement_79 post n) σ_19 x1 x2 x3 x4)) σ 44))
def f_A_readStatement_57 (post : Int32 → SS → Prop) (σ : SS) (x1 : Nat) (x2 : Int32) : Prop := nm (sI σ 28 0) fun σ_21 => nm (sI σ_21 27 0) fun σ_22 => (x1 < 35) ∧ f_S_mostOperands (fun r_25 σ_24 => nm (if 3 < r_25 then 3 else r_25) fun x3_26 => ∃ n9, f_A_readStatement_79 post n9 σ_24 x1 x2 x3_26 0) σ_22 x1
def f_A_readStatement_35 (post : Int32 → SS → Prop) (σ : SS) (x1 : Nat) (x2 : Int32) : Prop := (x1 < 35) ∧ br ((eS_form x1) = 4) (f_A_takes (fun r_29 σ_28 => br (r_29 = 0) (f_A_readStatement_57 post σ_28 x1 x2) (nm (x2 ||| 8) fun x2_30 => f_A_readStatement_57 post σ_28 x1 x2_30)) σ 35) (f_A_readStatement_57 post σ x1 x2)
def f_A_readStatement (post : Int32 → SS → Prop) (σ : SS) (e1 : Nat) : Prop := (e1 < 35) ∧ br (e1 = 34) (f_A_readStatement_35 post σ e1 0) (f_I_nameAt (fun r_33 σ_32 => f_S_furtherBits (fun r_35 σ_34 => nm (sI σ_34 29 ((σ_34.1 29) + 1)) fun σ_36 => f_A_readStatement_35 post σ_36 e1 r_35) σ_32 e1 r_33) σ (σ.1 29))
section
variable {p : Program} {l : Launch} {e : Env} {s : State} {m : MethodId} {args : Array Value} {below : List Frame} {meth : Method} {c : Code} {Q : State → Prop} {D : va_G} {cA : Nat → ClassId} {a : Nat → Nat} {ad : Nat → Nat → Nat} {A : Nat → Prop}
set_option maxHeartbeats 4000000 in
set_option maxRecDepth 100000 in
theorem c_A_readStatement_167 (fx : CallFix p m c b_A_readStatement 5 s args GW RNA) {post : Int32 → SS → Prop} (HR : RetI p l e r_A_readStatement s m args below meth c Q D vcl (tyl cA) (wC cA a) (XC ad) A b_A_readStatement .int post) {σ : SS} {x2 : Int32} {H : Heap} {locs : List Loc} {ls : Array Slot} (h : f_A_readStatement_167 post σ x2) (hw : CX D vcl (tyl cA) (wC cA a σ) (XC ad) A s H locs) (hl : lv_has ls 5 [(0, .ref (a 10)), (2, .int x2)]) : W p l e r_A_readStatement s m args below meth c H locs 0 0 Q (F0 m 167 ls []) := by
  have hx := fx.1
  have hb := fx.2.1
  unfold f_A_readStatement_167 at h
  refine lv_aload_n (pc := 167) hx hb d_A_readStatement_167 rfl (lv_at hl 0 rfl) ?_
  refine lv_iconst (pc := 168) (v := 2) hx hb d_A_readStatement_168 (by decide) ?_
  refine rsV (pc := 169) hw (rnV (pc := 169) xtC fx hw (c_A_complain h _) cw_A_90 (rcC_10 hw) rfl ⟨Nat.le_of_ble_eq_true rfl, Nat.le_of_ble_eq_true rfl⟩ hl.1 (Nat.le_of_ble_eq_true rfl) d_A_readStatement_169 ⟨Nat.zero_le _, Nat.zero_le _⟩) (fun σ_1 H locs hw h => ?_)
  refine lv_iload_n (pc := 172) hx hb d_A_readStatement_172 rfl (lv_at hl 1 rfl) ?_
  exact HR rfl d_A_readStatement_173 h hw
set_option maxHeartbeats 4000000 in
set_option maxRecDepth 100000 in
theorem c_A_readStatement_147 (fx : CallFix p m c b_A_readStatement 5 s args GW RNA) {post : Int32 → SS → Prop} (HR : RetI p l e r_A_readStatement s m args below meth c Q D vcl (tyl cA) (wC cA a) (XC ad) A b_A_readStatement .int post) {σ : SS} {x1 : Nat} {x2 : Int32} {H : Heap} {locs : List Loc} {ls : Array Slot} (h : f_A_readStatement_147 post σ x1 x2) (hw : CX D vcl (tyl cA) (wC cA a σ) (XC ad) A s H locs) (hl : lv_has ls 5 [(0, .ref (a 10)), (1, .ref (ad 0 x1)), (2, .int x2)]) : W p l e r_A_readStatement s m args below meth c H locs 0 0 Q (F0 m 147 ls []) := by
  have hx := fx.1
  have hb := fx.2.1
  unfold f_A_readStatement_147 at h
  refine lv_aload_n (pc := 147) hx hb d_A_readStatement_147 rfl (lv_at hl 0 rfl) ?_
  refine gC_10_operandCount (pc := 148) fx hw kw_225 d_A_readStatement_148 ?_
  refine lv_aload_n (pc := 151) hx hb d_A_readStatement_151 rfl (lv_at hl 1 rfl) ?_
  have b_3 := h.1
  replace h := h.2
  refine rsI (pc := 152) hw (rnV (pc := 152) xtC fx hw (c_S_leastOperands h _) cw_A_178 (rcS hw b_3) rfl ⟨Nat.le_of_ble_eq_true rfl, Nat.le_of_ble_eq_true rfl⟩ hl.1 (Nat.le_of_ble_eq_true rfl) d_A_readStatement_152 ⟨Nat.zero_le _, Nat.zero_le _⟩) (fun r_5 σ_4 H locs hw h => ?_)
  refine lv_icmp_lt (pc := 155) (tgt := 167) hx hb d_A_readStatement_155 (by decide) (fun c9 => ?_) (fun c9 => ?_)
  · replace h := h.1 c9
    exact c_A_readStatement_167  fx HR h hw (lv_sub hl [0, 2] rfl)
  · replace h := h.2 c9
    refine lv_aload_n (pc := 158) hx hb d_A_readStatement_158 rfl (lv_at hl 0 rfl) ?_
    refine rsI (pc := 159) hw (rnV (pc := 159) xtC fx hw (c_A_look h _) cw_A_86 (rcC_10 hw) rfl ⟨Nat.le_of_ble_eq_true rfl, Nat.le_of_ble_eq_true rfl⟩ hl.1 (Nat.le_of_ble_eq_true rfl) d_A_readStatement_159 ⟨Nat.zero_le _, Nat.zero_le _⟩) (fun r_7 σ_6 H locs hw h => ?_)
    refine lv_bipush (pc := 162) (v := 10) hx hb d_A_readStatement_162 (by decide) ?_
    refine lv_icmp_eq (pc := 164) (tgt := 172) hx hb d_A_readStatement_164 (by decide) (fun c9 => ?_) (fun c9 => ?_)
    · replace h := h.1 c9
      refine lv_iload_n (pc := 172) hx hb d_A_readStatement_172 rfl (lv_at hl 2 rfl) ?_
      exact HR rfl d_A_readStatement_173 h hw
    · replace h := h.2 c9
      exact c_A_readStatement_167  fx HR h hw (lv_sub hl [0, 2] rfl)
set_option maxHeartbeats 4000000 in
set_option maxRecDepth 100000 in
theorem c_A_readStatement_122 (fx : CallFix p m c b_A_readStatement 5 s args GW RNA) {post : Int32 → SS → Prop} (HR : RetI p l e r_A_readStatement s m args below meth c Q D vcl (tyl cA) (wC cA a) (XC ad) A b_A_readStatement .int post) {k79 : SS → Nat → Int32 → Int32 → Int32 → Prop} (K79 : ∀ {σ : SS} {x1 : Nat} {x2 : Int32} {x3 : Int32} {x4 : Int32} {H : Heap} {locs : List Loc} {ls : Array Slot}, k79 σ x1 x2 x3 x4 → CX D vcl (tyl cA) (wC cA a σ) (XC ad) A s H locs → lv_has ls 5 [(0, .ref (a 10)), (1, .ref (ad 0 x1)), (2, .int x2), (3, .int x3), (4, .int x4)] → W p l e r_A_readStatement s m args below meth c H locs 0 0 Q (F0 m 79 ls [])) {σ : SS} {x1 : Nat} {x2 : Int32} {x3 : Int32} {x4 : Int32} {H : Heap} {locs : List Loc} {ls : Array Slot} (h : f_A_readStatement_122 post k79 σ x1 x2 x3 x4) (hw : CX D vcl (tyl cA) (wC cA a σ) (XC ad) A s H locs) (hl : lv_has ls 5 [(0, .ref (a 10)), (1, .ref (ad 0 x1)), (2, .int x2), (3, .int x3), (4, .int x4)]) : W p l e r_A_readStatement s m args below meth c H locs 0 0 Q (F0 m 122 ls []) := by
  have hx := fx.1
  have hb := fx.2.1
  unfold f_A_readStatement_122 at h
  refine lv_aload_n (pc := 122) hx hb d_A_readStatement_122 rfl (lv_at hl 0 rfl) ?_
  refine gC_10_operands (pc := 123) fx hw kw_224 d_A_readStatement_123 ?_
  refine lv_iload (pc := 126) hx hb d_A_readStatement_126 (lv_at hl 4 rfl) ?_
  refine lv_aload_n (pc := 128) hx hb d_A_readStatement_128 rfl (lv_at hl 0 rfl) ?_
  refine rsI (pc := 129) hw (rnV (pc := 129) xtC fx hw (c_A_readExpression h _) cw_A_175 (rcC_10 hw) rfl ⟨Nat.le_of_ble_eq_true rfl, Nat.le_of_ble_eq_true rfl⟩ hl.1 (Nat.le_of_ble_eq_true rfl) d_A_readStatement_129 ⟨Nat.zero_le _, Nat.zero_le _⟩) (fun r_9 σ_8 H locs hw h => ?_)
  refine asC_22 (pc := 132) fx hw h.1 d_A_readStatement_132 (fun σ_10 e9 H locs hw => ?_)
  replace h := nm_u h.2 e9
  clear e9
  refine lv_aload_n (pc := 133) hx hb d_A_readStatement_133 rfl (lv_at hl 0 rfl) ?_
  refine lv_iload (pc := 134) hx hb d_A_readStatement_134 (lv_at hl 4 rfl) ?_
  refine lv_iconst (pc := 136) (v := 1) hx hb d_A_readStatement_136 (by decide) ?_
  refine lv_iadd (pc := 137) hx hb d_A_readStatement_137 ?_
  refine pC_10_operandCount (pc := 138) fx hw kw_225 d_A_readStatement_138 (fun σ_11 e9 H locs hw => ?_)
  replace h := nm_u h e9
  clear e9
  obtain ⟨x4_12, e9⟩ : ∃ z : Int32, z = x4 + 1 := ⟨_, rfl⟩
  replace h := nm_u h e9
  refine lv_iinc (pc := 141) (v := x4_12) (lv' := [(4, .int x4_12), (0, .ref (a 10)), (1, .ref (ad 0 x1)), (2, .int x2), (3, .int x3)]) hx hb d_A_readStatement_141 hl (k := 4) rfl (by rw [e9]; rfl) (by decide) rfl (fun ls hl => ?_)
  clear e9
  refine lv_goto (pc := 144) (tgt := 79) hx hb d_A_readStatement_144 (by decide) ?_
  exact K79 h hw (lv_sub hl [1, 2, 3, 4, 0] rfl)
set_option maxHeartbeats 4000000 in
set_option maxRecDepth 100000 in
theorem c_A_readStatement_99 (fx : CallFix p m c b_A_readStatement 5 s args GW RNA) {post : Int32 → SS → Prop} (HR : RetI p l e r_A_readStatement s m args below meth c Q D vcl (tyl cA) (wC cA a) (XC ad) A b_A_readStatement .int post) {k79 : SS → Nat → Int32 → Int32 → Int32 → Prop} (K79 : ∀ {σ : SS} {x1 : Nat} {x2 : Int32} {x3 : Int32} {x4 : Int32} {H : Heap} {locs : List Loc} {ls : Array Slot}, k79 σ x1 x2 x3 x4 → CX D vcl (tyl cA) (wC cA a σ) (XC ad) A s H locs → lv_has ls 5 [(0, .ref (a 10)), (1, .ref (ad 0 x1)), (2, .int x2), (3, .int x3), (4, .int x4)] → W p l e r_A_readStatement s m args below meth c H locs 0 0 Q (F0 m 79 ls [])) {σ : SS} {x1 : Nat} {x2 : Int32} {x3 : Int32} {x4 : Int32} {H : Heap} {locs : List Loc} {ls : Array Slot} (h : f_A_readStatement_99 post k79 σ x1 x2 x3 x4) (hw : CX D vcl (tyl cA) (wC cA a σ) (XC ad) A s H locs) (hl : lv_has ls 5 [(0, .ref (a 10)), (1, .ref (ad 0 x1)), (2, .int x2), (3, .int x3), (4, .int x4)]) : W p l e r_A_readStatement s m args below meth c H locs 0 0 Q (F0 m 99 ls []) := by
  have hx := fx.1
  have hb := fx.2.1
  unfold f_A_readStatement_99 at h
  refine lv_iload (pc := 99) hx hb d_A_readStatement_99 (lv_at hl 4 rfl) ?_
  refine lv_aload_n (pc := 101) hx hb d_A_readStatement_101 rfl (lv_at hl 1 rfl) ?_
  have b_13 := h.1
  replace h := h.2
  refine rsI (pc := 102) hw (rnV (pc := 102) xtC fx hw (c_S_addressOperand h _) cw_A_172 (rcS hw b_13) rfl ⟨Nat.le_of_ble_eq_true rfl, Nat.le_of_ble_eq_true rfl⟩ hl.1 (Nat.le_of_ble_eq_true rfl) d_A_readStatement_102 ⟨Nat.zero_le _, Nat.zero_le _⟩) (fun r_15 σ_14 H locs hw h => ?_)
  refine lv_icmp_ne (pc := 105) (tgt := 122) hx hb d_A_readStatement_105 (by decide) (fun c9 => ?_) (fun c9 => ?_)
  · replace h := h.2 c9
    exact c_A_readStatement_122  fx HR K79 h hw (lv_sub hl [0, 1, 2, 3, 4] rfl)
  · replace h := h.1 c9
    refine lv_aload_n (pc := 108) hx hb d_A_readStatement_108 rfl (lv_at hl 0 rfl) ?_
    refine lv_bipush (pc := 109) (v := 64) hx hb d_A_readStatement_109 (by decide) ?_
    refine rsI (pc := 111) hw (rnV (pc := 111) xtC fx hw (c_A_takes h _) cw_A_130 (rcC_10 hw) rfl ⟨Nat.le_of_ble_eq_true rfl, Nat.le_of_ble_eq_true rfl⟩ hl.1 (Nat.le_of_ble_eq_true rfl) d_A_readStatement_111 ⟨Nat.zero_le _, Nat.zero_le _⟩) (fun r_17 σ_16 H locs hw h => ?_)
    have zr_17 := h.1
    replace h := h.2
    refine lv_if_eq (pc := 114) (tgt := 122) hx hb d_A_readStatement_114 (by decide) (fun c9 => ?_) (fun c9 => ?_)
    · replace h := h.1 c9
      exact c_A_readStatement_122  fx HR K79 h hw (lv_sub hl [0, 1, 2, 3, 4] rfl)
    · replace h := h.2 c9
      refine lv_aload_n (pc := 117) hx hb d_A_readStatement_117 rfl (lv_at hl 0 rfl) ?_
      refine lv_iconst (pc := 118) (v := 1) hx hb d_A_readStatement_118 (by decide) ?_
      refine pC_10_indirect (pc := 119) fx hw kw_226 bz_1 d_A_readStatement_119 (fun σ_18 e9 H locs hw => ?_)
      replace h := nm_u h e9
      clear e9
      exact c_A_readStatement_122  fx HR K79 h hw (lv_sub hl [0, 1, 2, 3, 4] rfl)
set_option maxHeartbeats 4000000 in
set_option maxRecDepth 100000 in
theorem c_A_readStatement_79 (fx : CallFix p m c b_A_readStatement 5 s args GW RNA) {post : Int32 → SS → Prop} (HR : RetI p l e r_A_readStatement s m args below meth c Q D vcl (tyl cA) (wC cA a) (XC ad) A b_A_readStatement .int post) : ∀ (n : Nat) {σ : SS} {x1 : Nat} {x2 : Int32} {x3 : Int32} {x4 : Int32} {H : Heap} {locs : List Loc} {ls : Array Slot}, f_A_readStatement_79 post n σ x1 x2 x3 x4 → CX D vcl (tyl cA) (wC cA a σ) (XC ad) A s H locs → lv_has ls 5 [(0, .ref (a 10)), (1, .ref (ad 0 x1)), (2, .int x2), (3, .int x3), (4, .int x4)] → W p l e r_A_readStatement s m args below meth c H locs 0 0 Q (F0 m 79 ls []) := by
  have hx := fx.1
  have hb := fx.2.1
  intro n
  induction n with
  | zero => intro σ x1 x2 x3 x4 H locs ls h; exact h.elim
  | succ n ih =>
    intro σ x1 x2 x3 x4 H locs ls h hw hl
    have K79 := @ih
    unfold f_A_readStatement_79 at h
    refine lv_iload (pc := 79) hx hb d_A_readStatement_79 (lv_at hl 4 rfl) ?_
    refine lv_iload_n (pc := 81) hx hb d_A_readStatement_81 rfl (lv_at hl 3 rfl) ?_
    refine lv_icmp_ge (pc := 82) (tgt := 147) hx hb d_A_readStatement_82 (by decide) (fun c9 => ?_) (fun c9 => ?_)
    · replace h := h.1 c9
      exact c_A_readStatement_147  fx HR h hw (lv_sub hl [0, 1, 2] rfl)
    · replace h := h.2 c9
      refine lv_iload (pc := 85) hx hb d_A_readStatement_85 (lv_at hl 4 rfl) ?_
      refine lv_if_eq (pc := 87) (tgt := 99) hx hb d_A_readStatement_87 (by decide) (fun c9 => ?_) (fun c9 => ?_)
      · replace h := h.1 c9
        exact c_A_readStatement_99  fx HR K79 h hw (lv_sub hl [0, 1, 2, 3, 4] rfl)
      · replace h := h.2 c9
        refine lv_aload_n (pc := 90) hx hb d_A_readStatement_90 rfl (lv_at hl 0 rfl) ?_
        refine lv_bipush (pc := 91) (v := 44) hx hb d_A_readStatement_91 (by decide) ?_
        refine rsI (pc := 93) hw (rnV (pc := 93) xtC fx hw (c_A_takes h _) cw_A_130 (rcC_10 hw) rfl ⟨Nat.le_of_ble_eq_true rfl, Nat.le_of_ble_eq_true rfl⟩ hl.1 (Nat.le_of_ble_eq_true rfl) d_A_readStatement_93 ⟨Nat.zero_le _, Nat.zero_le _⟩) (fun r_20 σ_19 H locs hw h => ?_)
        have zr_20 := h.1
        replace h := h.2
        refine lv_if_eq (pc := 96) (tgt := 147) hx hb d_A_readStatement_96 (by decide) (fun c9 => ?_) (fun c9 => ?_)
        · replace h := h.1 c9
          exact c_A_readStatement_147  fx HR h hw (lv_sub hl [0, 1, 2] rfl)
        · replace h := h.2 c9
          exact c_A_readStatement_99  fx HR K79 h hw (lv_sub hl [0, 1, 2, 3, 4] rfl)
set_option maxHeartbeats 4000000 in
set_option maxRecDepth 100000 in
theorem c_A_readStatement_57 (fx : CallFix p m c b_A_readStatement 5 s args GW RNA) {post : Int32 → SS → Prop} (HR : RetI p l e r_A_readStatement s m args below meth c Q D vcl (tyl cA) (wC cA a) (XC ad) A b_A_readStatement .int post) {σ : SS} {x1 : Nat} {x2 : Int32} {H : Heap} {locs : List Loc} {ls : Array Slot} (h : f_A_readStatement_57 post σ x1 x2) (hw : CX D vcl (tyl cA) (wC cA a σ) (XC ad) A s H locs) (hl : lv_has ls 5 [(0, .ref (a 10)), (1, .ref (ad 0 x1)), (2, .int x2)]) : W p l e r_A_readStatement s m args below meth c H locs 0 0 Q (F0 m 57 ls []) := by
  have hx := fx.1
  have hb := fx.2.1
  unfold f_A_readStatement_57 at h
  refine lv_aload_n (pc := 57) hx hb d_A_readStatement_57 rfl (lv_at hl 0 rfl) ?_
  refine lv_iconst (pc := 58) (v := 0) hx hb d_A_readStatement_58 (by decide) ?_
  refine pC_10_indirect (pc := 59) fx hw kw_226 bz_0 d_A_readStatement_59 (fun σ_21 e9 H locs hw => ?_)
  replace h := nm_u h e9
  clear e9
  refine lv_aload_n (pc := 62) hx hb d_A_readStatement_62 rfl (lv_at hl 0 rfl) ?_
  refine lv_iconst (pc := 63) (v := 0) hx hb d_A_readStatement_63 (by decide) ?_
  refine pC_10_operandCount (pc := 64) fx hw kw_225 d_A_readStatement_64 (fun σ_22 e9 H locs hw => ?_)
  replace h := nm_u h e9
  clear e9
  refine lv_aload_n (pc := 67) hx hb d_A_readStatement_67 rfl (lv_at hl 1 rfl) ?_
  have b_23 := h.1
  replace h := h.2
  refine rsI (pc := 68) hw (rnV (pc := 68) xtC fx hw (c_S_mostOperands h _) cw_A_163 (rcS hw b_23) rfl ⟨Nat.le_of_ble_eq_true rfl, Nat.le_of_ble_eq_true rfl⟩ hl.1 (Nat.le_of_ble_eq_true rfl) d_A_readStatement_68 ⟨Nat.zero_le _, Nat.zero_le _⟩) (fun r_25 σ_24 H locs hw h => ?_)
  refine lv_iconst (pc := 71) (v := 3) hx hb d_A_readStatement_71 (by decide) ?_
  refine va_mmin (pc := 72) hx hb (fx.2.2.1.trans hl.1.symm) fx.2.2.2.1 (fx.2.2.2.2 _ kw_565) (fx.2.2.2.2 _ kw_430) (fx.2.2.2.2 _ kw_17) (fx.2.2.2.2 _ kw_431) (Nat.le_of_ble_eq_true rfl) (Nat.le_of_ble_eq_true rfl) (Nat.zero_le _) (Nat.zero_le _) d_A_readStatement_72 ?_
  refine lv_topi (fun x3_26 e9 => ?_)
  replace h := nm_u h e9
  clear e9
  refine lv_istore_n (pc := 75) (lv' := [(3, .int x3_26), (0, .ref (a 10)), (1, .ref (ad 0 x1)), (2, .int x2)]) hx hb d_A_readStatement_75 rfl hl (by decide) rfl (fun ls hl => ?_)
  refine lv_iconst (pc := 76) (v := 0) hx hb d_A_readStatement_76 (by decide) ?_
  refine lv_istore (pc := 77) (lv' := [(4, .int 0), (3, .int x3_26), (0, .ref (a 10)), (1, .ref (ad 0 x1)), (2, .int x2)]) hx hb d_A_readStatement_77 hl (by decide) rfl (fun ls hl => ?_)
  obtain ⟨n9, h⟩ := h
  exact c_A_readStatement_79  fx HR n9 h hw (lv_sub hl [2, 3, 4, 1, 0] rfl)
set_option maxHeartbeats 4000000 in
set_option maxRecDepth 100000 in
theorem c_A_readStatement_35 (fx : CallFix p m c b_A_readStatement 5 s args GW RNA) {post : Int32 → SS → Prop} (HR : RetI p l e r_A_readStatement s m args below meth c Q D vcl (tyl cA) (wC cA a) (XC ad) A b_A_readStatement .int post) {σ : SS} {x1 : Nat} {x2 : Int32} {H : Heap} {locs : List Loc} {ls : Array Slot} (h : f_A_readStatement_35 post σ x1 x2) (hw : CX D vcl (tyl cA) (wC cA a σ) (XC ad) A s H locs) (hl : lv_has ls 5 [(0, .ref (a 10)), (1, .ref (ad 0 x1)), (2, .int x2)]) : W p l e r_A_readStatement s m args below meth c H locs 0 0 Q (F0 m 35 ls []) := by
  have hx := fx.1
  have hb := fx.2.1
  unfold f_A_readStatement_35 at h
  refine lv_aload_n (pc := 35) hx hb d_A_readStatement_35 rfl (lv_at hl 1 rfl) ?_
  have b_27 := h.1
  replace h := h.2
  refine geS_form (pc := 36) fx hw b_27 kw_1556 d_A_readStatement_36 ?_
  refine lv_iconst (pc := 39) (v := 4) hx hb d_A_readStatement_39 (by decide) ?_
  refine lv_icmp_ne (pc := 40) (tgt := 57) hx hb d_A_readStatement_40 (by decide) (fun c9 => ?_) (fun c9 => ?_)
  · replace h := h.2 c9
    exact c_A_readStatement_57  fx HR h hw (lv_sub hl [0, 1, 2] rfl)
  · replace h := h.1 c9
    refine lv_aload_n (pc := 43) hx hb d_A_readStatement_43 rfl (lv_at hl 0 rfl) ?_
    refine lv_bipush (pc := 44) (v := 35) hx hb d_A_readStatement_44 (by decide) ?_
    refine rsI (pc := 46) hw (rnV (pc := 46) xtC fx hw (c_A_takes h _) cw_A_130 (rcC_10 hw) rfl ⟨Nat.le_of_ble_eq_true rfl, Nat.le_of_ble_eq_true rfl⟩ hl.1 (Nat.le_of_ble_eq_true rfl) d_A_readStatement_46 ⟨Nat.zero_le _, Nat.zero_le _⟩) (fun r_29 σ_28 H locs hw h => ?_)
    have zr_29 := h.1
    replace h := h.2
    refine lv_if_eq (pc := 49) (tgt := 57) hx hb d_A_readStatement_49 (by decide) (fun c9 => ?_) (fun c9 => ?_)
    · replace h := h.1 c9
      exact c_A_readStatement_57  fx HR h hw (lv_sub hl [0, 1, 2] rfl)
    · replace h := h.2 c9
      refine lv_iload_n (pc := 52) hx hb d_A_readStatement_52 rfl (lv_at hl 2 rfl) ?_
      refine lv_bipush (pc := 53) (v := 8) hx hb d_A_readStatement_53 (by decide) ?_
      refine lv_ior (pc := 55) hx hb d_A_readStatement_55 ?_
      refine lv_topi (fun x2_30 e9 => ?_)
      replace h := nm_u h e9
      clear e9
      refine lv_istore_n (pc := 56) (lv' := [(2, .int x2_30), (0, .ref (a 10)), (1, .ref (ad 0 x1))]) hx hb d_A_readStatement_56 rfl hl (by decide) rfl (fun ls hl => ?_)
      exact c_A_readStatement_57  fx HR h hw (lv_sub hl [1, 2, 0] rfl)
set_option maxHeartbeats 4000000 in
set_option maxRecDepth 100000 in
theorem e_A_readStatement (fx : CallFix p m c b_A_readStatement 5 s args GW RNA) {post : Int32 → SS → Prop} (HR : RetI p l e r_A_readStatement s m args below meth c Q D vcl (tyl cA) (wC cA a) (XC ad) A b_A_readStatement .int post) {σ : SS} {e1 : Nat} {H : Heap} {locs : List Loc} {ls : Array Slot} (h : f_A_readStatement post σ e1) (hw : CX D vcl (tyl cA) (wC cA a σ) (XC ad) A s H locs) (hl : lv_has ls 5 [(0, .ref (a 10)), (1, .ref (ad 0 e1))]) : W p l e r_A_readStatement s m args below meth c H locs 0 0 Q (F0 m 0 ls []) := by
  have hx := fx.1
  have hb := fx.2.1
  unfold f_A_readStatement at h
  refine lv_iconst (pc := 0) (v := 0) hx hb d_A_readStatement_0 (by decide) ?_
  refine lv_istore_n (pc := 1) (lv' := [(2, .int 0), (0, .ref (a 10)), (1, .ref (ad 0 e1))]) hx hb d_A_readStatement_1 rfl hl (by decide) rfl (fun ls hl => ?_)
  refine lv_aload_n (pc := 2) hx hb d_A_readStatement_2 rfl (lv_at hl 2 rfl) ?_
  refine gzS_WORD (pc := 3) fx hw kw_543 d_A_readStatement_3 ?_
  have b_31 := h.1
  replace h := h.2
  refine acS_eq (pc := 6) (tgt := 35) fx hw b_31 d_A_readStatement_6 (by decide) (fun c9 => ?_) (fun c9 => ?_)
  · replace h := h.1 c9
    exact c_A_readStatement_35  fx HR h hw (lv_sub hl [1, 2, 0] rfl)
  · replace h := h.2 c9
    refine lv_aload_n (pc := 9) hx hb d_A_readStatement_9 rfl (lv_at hl 2 rfl) ?_
    refine lv_aload_n (pc := 10) hx hb d_A_readStatement_10 rfl (lv_at hl 1 rfl) ?_
    refine gC_10_items (pc := 11) fx hw kw_216 d_A_readStatement_11 ?_
    refine lv_aload_n (pc := 14) hx hb d_A_readStatement_14 rfl (lv_at hl 1 rfl) ?_
    refine gC_10_at (pc := 15) fx hw kw_227 d_A_readStatement_15 ?_
    refine rsJ (pc := 18) hw (rnV (pc := 18) xtC fx hw (c_I_nameAt h _) cw_A_94 (rcC_11 hw) rfl ⟨Nat.le_of_ble_eq_true rfl, Nat.le_of_ble_eq_true rfl⟩ hl.1 (Nat.le_of_ble_eq_true rfl) d_A_readStatement_18 ⟨Nat.zero_le _, Nat.zero_le _⟩) (fun r_33 σ_32 H locs hw h => ?_)
    refine rsI (pc := 21) hw (rnV (pc := 21) xtC fx hw (c_S_furtherBits h _) cw_A_153 (rcS hw b_31) rfl ⟨Nat.le_of_ble_eq_true rfl, Nat.le_of_ble_eq_true rfl⟩ hl.1 (Nat.le_of_ble_eq_true rfl) d_A_readStatement_21 ⟨Nat.zero_le _, Nat.zero_le _⟩) (fun r_35 σ_34 H locs hw h => ?_)
    refine lv_istore_n (pc := 24) (lv' := [(2, .int r_35), (0, .ref (a 10)), (1, .ref (ad 0 e1))]) hx hb d_A_readStatement_24 rfl hl (by decide) rfl (fun ls hl => ?_)
    refine lv_aload_n (pc := 25) hx hb d_A_readStatement_25 rfl (lv_at hl 1 rfl) ?_
    refine lv_dup (pc := 26) hx hb d_A_readStatement_26 rfl ?_
    refine gC_10_at (pc := 27) fx hw kw_227 d_A_readStatement_27 ?_
    refine lv_iconst (pc := 30) (v := 1) hx hb d_A_readStatement_30 (by decide) ?_
    refine lv_iadd (pc := 31) hx hb d_A_readStatement_31 ?_
    refine pC_10_at (pc := 32) fx hw kw_227 d_A_readStatement_32 (fun σ_36 e9 H locs hw => ?_)
    replace h := nm_u h e9
    clear e9
    exact c_A_readStatement_35  fx HR h hw (lv_sub hl [1, 2, 0] rfl)
end
theorem c_A_readStatement {l : Launch} {D : va_G} {cA : Nat → ClassId} {a : Nat → Nat} {ad : Nat → Nat → Nat} {σ : SS} {post : Int32 → SS → Prop} {e1 : Nat} (h : f_A_readStatement post σ e1) : mI l y_A_readStatement b_A_readStatement 5 (some .int) 5 119 D vcl (tyl cA) (wC cA a) (XC ad) σ [.ref (a 10), .ref (ad 0 e1)] post := met_I (by decide) (Nat.le_of_ble_eq_true rfl) (fun p e s m args below meth c A Q fx HR H ls hw hl => e_A_readStatement  fx HR h hw hl)
abbrev r_A_bounded : Room := { frames := 1, cells := 0, slots := 0, locals := 21 }
def f_A_bounded_19 (post : Int32 → SS → Prop) (σ : SS) (x2 : Int32) (s0 : Int32) : Prop := br (s0 ≤ x2) (post s0 σ) (f_A_complain (fun σ_1 => post s0 σ_1) σ 5)
def f_A_bounded (post : Int32 → SS → Prop) (σ : SS) (x1 : Int32) (x2 : Int32) : Prop := br (x1 < 0) (f_A_bounded_19 post σ x2 0) (br (3 ≤ x1) (f_A_bounded_19 post σ x2 0) (vp_in x1 3 ∧ f_A_bounded_19 post σ x2 (σ.2.1 22 x1.toNatClampNeg)))
section
variable {p : Program} {l : Launch} {e : Env} {s : State} {m : MethodId} {args : Array Value} {below : List Frame} {meth : Method} {c : Code} {Q : State → Prop} {D : va_G} {cA : Nat → ClassId} {a : Nat → Nat} {ad : Nat → Nat → Nat} {A : Nat → Prop}
set_option maxHeartbeats 4000000 in
set_option maxRecDepth 100000 in
theorem c_A_bounded_19 (fx : CallFix p m c b_A_bounded 4 s args GW RNA) {post : Int32 → SS → Prop} (HR : RetI p l e r_A_bounded s m args below meth c Q D vcl (tyl cA) (wC cA a) (XC ad) A b_A_bounded .int post) {σ : SS} {x2 : Int32} {s0 : Int32} {H : Heap} {locs : List Loc} {ls : Array Slot} (h : f_A_bounded_19 post σ x2 s0) (hw : CX D vcl (tyl cA) (wC cA a σ) (XC ad) A s H locs) (hl : lv_has ls 4 [(0, .ref (a 10)), (2, .int x2)]) : W p l e r_A_bounded s m args below meth c H locs 0 0 Q (F0 m 19 ls [.int s0]) := by
  have hx := fx.1
  have hb := fx.2.1
  unfold f_A_bounded_19 at h
  refine lv_istore_n (pc := 19) (lv' := [(3, .int s0), (0, .ref (a 10)), (2, .int x2)]) hx hb d_A_bounded_19 rfl hl (by decide) rfl (fun ls hl => ?_)
  refine lv_iload_n (pc := 20) hx hb d_A_bounded_20 rfl (lv_at hl 0 rfl) ?_
  refine lv_iload_n (pc := 21) hx hb d_A_bounded_21 rfl (lv_at hl 2 rfl) ?_
  refine lv_icmp_le (pc := 22) (tgt := 30) hx hb d_A_bounded_22 (by decide) (fun c9 => ?_) (fun c9 => ?_)
  · replace h := h.1 c9
    refine lv_iload_n (pc := 30) hx hb d_A_bounded_30 rfl (lv_at hl 0 rfl) ?_
    exact HR rfl d_A_bounded_31 h hw
  · replace h := h.2 c9
    refine lv_aload_n (pc := 25) hx hb d_A_bounded_25 rfl (lv_at hl 1 rfl) ?_
    refine lv_iconst (pc := 26) (v := 5) hx hb d_A_bounded_26 (by decide) ?_
    refine rsV (pc := 27) hw (rnV (pc := 27) xtC fx hw (c_A_complain h _) cw_A_90 (rcC_10 hw) rfl ⟨Nat.le_of_ble_eq_true rfl, Nat.le_of_ble_eq_true rfl⟩ hl.1 (Nat.le_of_ble_eq_true rfl) d_A_bounded_27 ⟨Nat.zero_le _, Nat.zero_le _⟩) (fun σ_1 H locs hw h => ?_)
    refine lv_iload_n (pc := 30) hx hb d_A_bounded_30 rfl (lv_at hl 0 rfl) ?_
    exact HR rfl d_A_bounded_31 h hw
set_option maxHeartbeats 4000000 in
set_option maxRecDepth 100000 in
theorem e_A_bounded (fx : CallFix p m c b_A_bounded 4 s args GW RNA) {post : Int32 → SS → Prop} (HR : RetI p l e r_A_bounded s m args below meth c Q D vcl (tyl cA) (wC cA a) (XC ad) A b_A_bounded .int post) {σ : SS} {x1 : Int32} {x2 : Int32} {H : Heap} {locs : List Loc} {ls : Array Slot} (h : f_A_bounded post σ x1 x2) (hw : CX D vcl (tyl cA) (wC cA a σ) (XC ad) A s H locs) (hl : lv_has ls 4 [(0, .ref (a 10)), (1, .int x1), (2, .int x2)]) : W p l e r_A_bounded s m args below meth c H locs 0 0 Q (F0 m 0 ls []) := by
  have hx := fx.1
  have hb := fx.2.1
  unfold f_A_bounded at h
  refine lv_iload_n (pc := 0) hx hb d_A_bounded_0 rfl (lv_at hl 1 rfl) ?_
  refine lv_if_lt (pc := 1) (tgt := 18) hx hb d_A_bounded_1 (by decide) (fun c9 => ?_) (fun c9 => ?_)
  · replace h := h.1 c9
    refine lv_iconst (pc := 18) (v := 0) hx hb d_A_bounded_18 (by decide) ?_
    exact c_A_bounded_19  fx HR h hw (lv_sub hl [0, 2] rfl)
  · replace h := h.2 c9
    refine lv_iload_n (pc := 4) hx hb d_A_bounded_4 rfl (lv_at hl 1 rfl) ?_
    refine lv_iconst (pc := 5) (v := 3) hx hb d_A_bounded_5 (by decide) ?_
    refine lv_icmp_ge (pc := 6) (tgt := 18) hx hb d_A_bounded_6 (by decide) (fun c9 => ?_) (fun c9 => ?_)
    · replace h := h.1 c9
      refine lv_iconst (pc := 18) (v := 0) hx hb d_A_bounded_18 (by decide) ?_
      exact c_A_bounded_19  fx HR h hw (lv_sub hl [0, 2] rfl)
    · replace h := h.2 c9
      refine lv_aload_n (pc := 9) hx hb d_A_bounded_9 rfl (lv_at hl 0 rfl) ?_
      refine gC_10_operands (pc := 10) fx hw kw_224 d_A_bounded_10 ?_
      refine lv_iload_n (pc := 13) hx hb d_A_bounded_13 rfl (lv_at hl 1 rfl) ?_
      refine alC_22 (pc := 14) fx hw h.1 d_A_bounded_14 ?_
      replace h := h.2
      refine lv_goto (pc := 15) (tgt := 19) hx hb d_A_bounded_15 (by decide) ?_
      exact c_A_bounded_19  fx HR h hw (lv_sub hl [0, 2] rfl)
end
theorem c_A_bounded {l : Launch} {D : va_G} {cA : Nat → ClassId} {a : Nat → Nat} {ad : Nat → Nat → Nat} {σ : SS} {post : Int32 → SS → Prop} {x1 : Int32} {x2 : Int32} (h : f_A_bounded post σ x1 x2) : mI l y_A_bounded b_A_bounded 4 (some .int) 1 21 D vcl (tyl cA) (wC cA a) (XC ad) σ [.ref (a 10), .int x1, .int x2] post := met_I (by decide) (Nat.le_of_ble_eq_true rfl) (fun p e s m args below meth c A Q fx HR H ls hw hl => e_A_bounded  fx HR h hw hl)
abbrev r_A_moveLocation : Room := { frames := 2, cells := 0, slots := 0, locals := 44 }
def f_A_moveLocation (post : SS → Prop) (σ : SS) (x1 : Int32) : Prop := br (x1 = 0) (f_A_bounded (fun r_5 σ_4 => nm (sI σ_4 30 r_5) fun σ_6 => post σ_6) σ 0 32767) (vp_in (0 : Int32) 3 ∧ nm (sI σ 30 ((σ.1 30) + (σ.2.1 22 (0 : Int32).toNatClampNeg))) fun σ_1 => br ((σ_1.1 30) ≤ 32768) (post σ_1) (f_A_complain (fun σ_2 => post σ_2) σ_1 7))
section
variable {p : Program} {l : Launch} {e : Env} {s : State} {m : MethodId} {args : Array Value} {below : List Frame} {meth : Method} {c : Code} {Q : State → Prop} {D : va_G} {cA : Nat → ClassId} {a : Nat → Nat} {ad : Nat → Nat → Nat} {A : Nat → Prop}
set_option maxHeartbeats 4000000 in
set_option maxRecDepth 100000 in
theorem e_A_moveLocation (fx : CallFix p m c b_A_moveLocation 2 s args GW RNA) {post : SS → Prop} (HR : RetV p l e r_A_moveLocation s m args below meth c Q D vcl (tyl cA) (wC cA a) (XC ad) A b_A_moveLocation post) {σ : SS} {x1 : Int32} {H : Heap} {locs : List Loc} {ls : Array Slot} (h : f_A_moveLocation post σ x1) (hw : CX D vcl (tyl cA) (wC cA a σ) (XC ad) A s H locs) (hl : lv_has ls 2 [(0, .ref (a 10)), (1, .int x1)]) : W p l e r_A_moveLocation s m args below meth c H locs 0 0 Q (F0 m 0 ls []) := by
  have hx := fx.1
  have hb := fx.2.1
  unfold f_A_moveLocation at h
  refine lv_iload_n (pc := 0) hx hb d_A_moveLocation_0 rfl (lv_at hl 1 rfl) ?_
  refine lv_if_ne (pc := 1) (tgt := 17) hx hb d_A_moveLocation_1 (by decide) (fun c9 => ?_) (fun c9 => ?_)
  · replace h := h.2 c9
    refine lv_aload_n (pc := 17) hx hb d_A_moveLocation_17 rfl (lv_at hl 0 rfl) ?_
    refine lv_dup (pc := 18) hx hb d_A_moveLocation_18 rfl ?_
    refine gC_10_location (pc := 19) fx hw kw_228 d_A_moveLocation_19 ?_
    refine lv_aload_n (pc := 22) hx hb d_A_moveLocation_22 rfl (lv_at hl 0 rfl) ?_
    refine gC_10_operands (pc := 23) fx hw kw_224 d_A_moveLocation_23 ?_
    refine lv_iconst (pc := 26) (v := 0) hx hb d_A_moveLocation_26 (by decide) ?_
    refine alC_22 (pc := 27) fx hw h.1 d_A_moveLocation_27 ?_
    replace h := h.2
    refine lv_iadd (pc := 28) hx hb d_A_moveLocation_28 ?_
    refine pC_10_location (pc := 29) fx hw kw_228 d_A_moveLocation_29 (fun σ_1 e9 H locs hw => ?_)
    replace h := nm_u h e9
    clear e9
    refine lv_aload_n (pc := 32) hx hb d_A_moveLocation_32 rfl (lv_at hl 0 rfl) ?_
    refine gC_10_location (pc := 33) fx hw kw_228 d_A_moveLocation_33 ?_
    refine lv_ldc (pc := 36) (v := 32768) hx hb fx.2.2.2.1 (fx.2.2.2.2 _ kw_597) d_A_moveLocation_36 ?_
    refine lv_icmp_le (pc := 38) (tgt := 47) hx hb d_A_moveLocation_38 (by decide) (fun c9 => ?_) (fun c9 => ?_)
    · replace h := h.1 c9
      exact HR d_A_moveLocation_47 h hw
    · replace h := h.2 c9
      refine lv_aload_n (pc := 41) hx hb d_A_moveLocation_41 rfl (lv_at hl 0 rfl) ?_
      refine lv_bipush (pc := 42) (v := 7) hx hb d_A_moveLocation_42 (by decide) ?_
      refine rsV (pc := 44) hw (rnV (pc := 44) xtC fx hw (c_A_complain h _) cw_A_90 (rcC_10 hw) rfl ⟨Nat.le_of_ble_eq_true rfl, Nat.le_of_ble_eq_true rfl⟩ hl.1 (Nat.le_of_ble_eq_true rfl) d_A_moveLocation_44 ⟨Nat.zero_le _, Nat.zero_le _⟩) (fun σ_2 H locs hw h => ?_)
      exact HR d_A_moveLocation_47 h hw
  · replace h := h.1 c9
    refine lv_aload_n (pc := 4) hx hb d_A_moveLocation_4 rfl (lv_at hl 0 rfl) ?_
    refine lv_aload_n (pc := 5) hx hb d_A_moveLocation_5 rfl (lv_at hl 0 rfl) ?_
    refine lv_iconst (pc := 6) (v := 0) hx hb d_A_moveLocation_6 (by decide) ?_
    refine lv_sipush (pc := 7) (v := 32767) hx hb d_A_moveLocation_7 (by decide) ?_
    refine rsI (pc := 10) hw (rnV (pc := 10) xtC fx hw (c_A_bounded h _) cw_A_189 (rcC_10 hw) rfl ⟨Nat.le_of_ble_eq_true rfl, Nat.le_of_ble_eq_true rfl⟩ hl.1 (Nat.le_of_ble_eq_true rfl) d_A_moveLocation_10 ⟨Nat.zero_le _, Nat.zero_le _⟩) (fun r_5 σ_4 H locs hw h => ?_)
    refine pC_10_location (pc := 13) fx hw kw_228 d_A_moveLocation_13 (fun σ_6 e9 H locs hw => ?_)
    replace h := nm_u h e9
    clear e9
    exact HR d_A_moveLocation_16 h hw
end
theorem c_A_moveLocation {l : Launch} {D : va_G} {cA : Nat → ClassId} {a : Nat → Nat} {ad : Nat → Nat → Nat} {σ : SS} {post : SS → Prop} {x1 : Int32} (h : f_A_moveLocation post σ x1) : mV l y_A_moveLocation b_A_moveLocation 2 none 2 44 D vcl (tyl cA) (wC cA a) (XC ad) σ [.ref (a 10), .int x1] post := met_V (by decide) (Nat.le_of_ble_eq_true rfl) (fun p e s m args below meth c A Q fx HR H ls hw hl => e_A_moveLocation  fx HR h hw hl)
abbrev r_A_takePlace : Room := { frames := 1, cells := 0, slots := 0, locals := 21 }
def f_A_takePlace_15 (post : SS → Prop) (σ : SS) : Prop := nm (sI σ 30 ((σ.1 30) + 1)) fun σ_1 => post σ_1
def f_A_takePlace (post : SS → Prop) (σ : SS) : Prop := br ((σ.1 30) < 32768) (f_A_takePlace_15 post σ) (f_A_complain (fun σ_2 => f_A_takePlace_15 post σ_2) σ 7)
section
variable {p : Program} {l : Launch} {e : Env} {s : State} {m : MethodId} {args : Array Value} {below : List Frame} {meth : Method} {c : Code} {Q : State → Prop} {D : va_G} {cA : Nat → ClassId} {a : Nat → Nat} {ad : Nat → Nat → Nat} {A : Nat → Prop}
set_option maxHeartbeats 4000000 in
set_option maxRecDepth 100000 in
theorem c_A_takePlace_15 (fx : CallFix p m c b_A_takePlace 1 s args GW RNA) {post : SS → Prop} (HR : RetV p l e r_A_takePlace s m args below meth c Q D vcl (tyl cA) (wC cA a) (XC ad) A b_A_takePlace post) {σ : SS} {H : Heap} {locs : List Loc} {ls : Array Slot} (h : f_A_takePlace_15 post σ) (hw : CX D vcl (tyl cA) (wC cA a σ) (XC ad) A s H locs) (hl : lv_has ls 1 [(0, .ref (a 10))]) : W p l e r_A_takePlace s m args below meth c H locs 0 0 Q (F0 m 15 ls []) := by
  have hx := fx.1
  have hb := fx.2.1
  unfold f_A_takePlace_15 at h
  refine lv_aload_n (pc := 15) hx hb d_A_takePlace_15 rfl (lv_at hl 0 rfl) ?_
  refine lv_dup (pc := 16) hx hb d_A_takePlace_16 rfl ?_
  refine gC_10_location (pc := 17) fx hw kw_228 d_A_takePlace_17 ?_
  refine lv_iconst (pc := 20) (v := 1) hx hb d_A_takePlace_20 (by decide) ?_
  refine lv_iadd (pc := 21) hx hb d_A_takePlace_21 ?_
  refine pC_10_location (pc := 22) fx hw kw_228 d_A_takePlace_22 (fun σ_1 e9 H locs hw => ?_)
  replace h := nm_u h e9
  clear e9
  exact HR d_A_takePlace_25 h hw
set_option maxHeartbeats 4000000 in
set_option maxRecDepth 100000 in
theorem e_A_takePlace (fx : CallFix p m c b_A_takePlace 1 s args GW RNA) {post : SS → Prop} (HR : RetV p l e r_A_takePlace s m args below meth c Q D vcl (tyl cA) (wC cA a) (XC ad) A b_A_takePlace post) {σ : SS} {H : Heap} {locs : List Loc} {ls : Array Slot} (h : f_A_takePlace post σ) (hw : CX D vcl (tyl cA) (wC cA a σ) (XC ad) A s H locs) (hl : lv_has ls 1 [(0, .ref (a 10))]) : W p l e r_A_takePlace s m args below meth c H locs 0 0 Q (F0 m 0 ls []) := by
  have hx := fx.1
  have hb := fx.2.1
  unfold f_A_takePlace at h
  refine lv_aload_n (pc := 0) hx hb d_A_takePlace_0 rfl (lv_at hl 0 rfl) ?_
  refine gC_10_location (pc := 1) fx hw kw_228 d_A_takePlace_1 ?_
  refine lv_ldc (pc := 4) (v := 32768) hx hb fx.2.2.2.1 (fx.2.2.2.2 _ kw_597) d_A_takePlace_4 ?_
  refine lv_icmp_lt (pc := 6) (tgt := 15) hx hb d_A_takePlace_6 (by decide) (fun c9 => ?_) (fun c9 => ?_)
  · replace h := h.1 c9
    exact c_A_takePlace_15  fx HR h hw (lv_sub hl [0] rfl)
  · replace h := h.2 c9
    refine lv_aload_n (pc := 9) hx hb d_A_takePlace_9 rfl (lv_at hl 0 rfl) ?_
    refine lv_bipush (pc := 10) (v := 7) hx hb d_A_takePlace_10 (by decide) ?_
    refine rsV (pc := 12) hw (rnV (pc := 12) xtC fx hw (c_A_complain h _) cw_A_90 (rcC_10 hw) rfl ⟨Nat.le_of_ble_eq_true rfl, Nat.le_of_ble_eq_true rfl⟩ hl.1 (Nat.le_of_ble_eq_true rfl) d_A_takePlace_12 ⟨Nat.zero_le _, Nat.zero_le _⟩) (fun σ_2 H locs hw h => ?_)
    exact c_A_takePlace_15  fx HR h hw (lv_sub hl [0] rfl)
end
theorem c_A_takePlace {l : Launch} {D : va_G} {cA : Nat → ClassId} {a : Nat → Nat} {ad : Nat → Nat → Nat} {σ : SS} {post : SS → Prop} (h : f_A_takePlace post σ) : mV l y_A_takePlace b_A_takePlace 1 none 1 21 D vcl (tyl cA) (wC cA a) (XC ad) σ [.ref (a 10)] post := met_V (by decide) (Nat.le_of_ble_eq_true rfl) (fun p e s m args below meth c A Q fx HR H ls hw hl => e_A_takePlace  fx HR h hw hl)
abbrev r_N_isWithin : Room := { frames := 0, cells := 0, slots := 0, locals := 0 }
def f_N_isWithin (post : Int32 → SS → Prop) (σ : SS) (x0 : Int32) (x1 : Int32) : Prop := br (x0 < 0) (post 0 σ) (br (x1 < x0) (post 0 σ) (post 1 σ))
section
variable {p : Program} {l : Launch} {e : Env} {s : State} {m : MethodId} {args : Array Value} {below : List Frame} {meth : Method} {c : Code} {Q : State → Prop} {D : va_G} {cA : Nat → ClassId} {a : Nat → Nat} {ad : Nat → Nat → Nat} {A : Nat → Prop}
set_option maxHeartbeats 4000000 in
set_option maxRecDepth 100000 in
theorem e_N_isWithin (fx : CallFix p m c b_N_isWithin 2 s args GW RNN) {post : Int32 → SS → Prop} (HR : RetI p l e r_N_isWithin s m args below meth c Q D vcl (tyl cA) (wC cA a) (XC ad) A b_N_isWithin .boolean (fun r σ => bz r ∧ post r σ)) {σ : SS} {x0 : Int32} {x1 : Int32} {H : Heap} {locs : List Loc} {ls : Array Slot} (h : f_N_isWithin post σ x0 x1) (hw : CX D vcl (tyl cA) (wC cA a σ) (XC ad) A s H locs) (hl : lv_has ls 2 [(0, .int x0), (1, .int x1)]) : W p l e r_N_isWithin s m args below meth c H locs 0 0 Q (F0 m 0 ls []) := by
  have hx := fx.1
  have hb := fx.2.1
  unfold f_N_isWithin at h
  refine lv_iload_n (pc := 0) hx hb d_N_isWithin_0 rfl (lv_at hl 0 rfl) ?_
  refine lv_if_lt (pc := 1) (tgt := 13) hx hb d_N_isWithin_1 (by decide) (fun c9 => ?_) (fun c9 => ?_)
  · replace h := h.1 c9
    refine lv_iconst (pc := 13) (v := 0) hx hb d_N_isWithin_13 (by decide) ?_
    exact HR (bz_n bz_0) d_N_isWithin_14 ⟨bz_0, h⟩ hw
  · replace h := h.2 c9
    refine lv_iload_n (pc := 4) hx hb d_N_isWithin_4 rfl (lv_at hl 0 rfl) ?_
    refine lv_iload_n (pc := 5) hx hb d_N_isWithin_5 rfl (lv_at hl 1 rfl) ?_
    refine lv_icmp_gt (pc := 6) (tgt := 13) hx hb d_N_isWithin_6 (by decide) (fun c9 => ?_) (fun c9 => ?_)
    · replace h := h.1 c9
      refine lv_iconst (pc := 13) (v := 0) hx hb d_N_isWithin_13 (by decide) ?_
      exact HR (bz_n bz_0) d_N_isWithin_14 ⟨bz_0, h⟩ hw
    · replace h := h.2 c9
      refine lv_iconst (pc := 9) (v := 1) hx hb d_N_isWithin_9 (by decide) ?_
      refine lv_goto (pc := 10) (tgt := 14) hx hb d_N_isWithin_10 (by decide) ?_
      exact HR (bz_n bz_1) d_N_isWithin_14 ⟨bz_1, h⟩ hw
end
theorem c_N_isWithin {l : Launch} {D : va_G} {cA : Nat → ClassId} {a : Nat → Nat} {ad : Nat → Nat → Nat} {σ : SS} {post : Int32 → SS → Prop} {x0 : Int32} {x1 : Int32} (h : f_N_isWithin post σ x0 x1) : mI l y_N_isWithin b_N_isWithin 2 (some .boolean) 0 0 D vcl (tyl cA) (wC cA a) (XC ad) σ [.int x0, .int x1] (fun r σ => bz r ∧ post r σ) := met_I (by decide) (Nat.le_of_ble_eq_true rfl) (fun p e s m args below meth c A Q fx HR H ls hw hl => e_N_isWithin  fx HR h hw hl)
abbrev r_A_addressBitsOf : Room := { frames := 1, cells := 0, slots := 0, locals := 21 }
def f_A_addressBitsOf_56 (post : Int32 → SS → Prop) (σ : SS) (x1 : Int32) (x2 : Int32) (s0 : Int32) : Prop := post ((s0 ||| (x1 <<< ((8 : Int32) &&& 31))) ||| (x2 &&& 255)) σ
def f_A_addressBitsOf_42 (post : Int32 → SS → Prop) (σ : SS) (x1 : Int32) (x2 : Int32) : Prop := br ((σ.1 28) = 0) (f_A_addressBitsOf_56 post σ x1 x2 0) (f_A_addressBitsOf_56 post σ x1 x2 1024)
def f_A_addressBitsOf_31 (post : Int32 → SS → Prop) (σ : SS) (x1 : Int32) (x2 : Int32) (s0 : Int32) : Prop := br (s0 = 0) (f_A_complain (fun σ_1 => f_A_addressBitsOf_42 post σ_1 x1 x2) σ 6) (f_A_addressBitsOf_42 post σ x1 x2)
def f_A_addressBitsOf (post : Int32 → SS → Prop) (σ : SS) (x1 : Int32) (x2 : Int32) : Prop := br (x1 = 0) (f_N_isWithin (fun r_4 σ_3 => f_A_addressBitsOf_31 post σ_3 x1 x2 r_4) σ x2 255) (br (x2 < (-128)) (f_A_addressBitsOf_31 post σ x1 x2 0) (br (127 < x2) (f_A_addressBitsOf_31 post σ x1 x2 0) (f_A_addressBitsOf_31 post σ x1 x2 1)))
section
variable {p : Program} {l : Launch} {e : Env} {s : State} {m : MethodId} {args : Array Value} {below : List Frame} {meth : Method} {c : Code} {Q : State → Prop} {D : va_G} {cA : Nat → ClassId} {a : Nat → Nat} {ad : Nat → Nat → Nat} {A : Nat → Prop}
set_option maxHeartbeats 4000000 in
set_option maxRecDepth 100000 in
theorem c_A_addressBitsOf_56 (fx : CallFix p m c b_A_addressBitsOf 4 s args GW RNA) {post : Int32 → SS → Prop} (HR : RetI p l e r_A_addressBitsOf s m args below meth c Q D vcl (tyl cA) (wC cA a) (XC ad) A b_A_addressBitsOf .int post) {σ : SS} {x1 : Int32} {x2 : Int32} {s0 : Int32} {H : Heap} {locs : List Loc} {ls : Array Slot} (h : f_A_addressBitsOf_56 post σ x1 x2 s0) (hw : CX D vcl (tyl cA) (wC cA a σ) (XC ad) A s H locs) (hl : lv_has ls 4 [(1, .int x1), (2, .int x2)]) : W p l e r_A_addressBitsOf s m args below meth c H locs 0 0 Q (F0 m 56 ls [.int s0]) := by
  have hx := fx.1
  have hb := fx.2.1
  unfold f_A_addressBitsOf_56 at h
  refine lv_iload_n (pc := 56) hx hb d_A_addressBitsOf_56 rfl (lv_at hl 0 rfl) ?_
  refine lv_bipush (pc := 57) (v := 8) hx hb d_A_addressBitsOf_57 (by decide) ?_
  refine lv_ishl (pc := 59) hx hb d_A_addressBitsOf_59 ?_
  refine lv_ior (pc := 60) hx hb d_A_addressBitsOf_60 ?_
  refine lv_iload_n (pc := 61) hx hb d_A_addressBitsOf_61 rfl (lv_at hl 1 rfl) ?_
  refine lv_sipush (pc := 62) (v := 255) hx hb d_A_addressBitsOf_62 (by decide) ?_
  refine lv_iand (pc := 65) hx hb d_A_addressBitsOf_65 ?_
  refine lv_ior (pc := 66) hx hb d_A_addressBitsOf_66 ?_
  exact HR rfl d_A_addressBitsOf_67 h hw
set_option maxHeartbeats 4000000 in
set_option maxRecDepth 100000 in
theorem c_A_addressBitsOf_42 (fx : CallFix p m c b_A_addressBitsOf 4 s args GW RNA) {post : Int32 → SS → Prop} (HR : RetI p l e r_A_addressBitsOf s m args below meth c Q D vcl (tyl cA) (wC cA a) (XC ad) A b_A_addressBitsOf .int post) {σ : SS} {x1 : Int32} {x2 : Int32} {H : Heap} {locs : List Loc} {ls : Array Slot} (h : f_A_addressBitsOf_42 post σ x1 x2) (hw : CX D vcl (tyl cA) (wC cA a σ) (XC ad) A s H locs) (hl : lv_has ls 4 [(0, .ref (a 10)), (1, .int x1), (2, .int x2)]) : W p l e r_A_addressBitsOf s m args below meth c H locs 0 0 Q (F0 m 42 ls []) := by
  have hx := fx.1
  have hb := fx.2.1
  unfold f_A_addressBitsOf_42 at h
  refine lv_aload_n (pc := 42) hx hb d_A_addressBitsOf_42 rfl (lv_at hl 0 rfl) ?_
  refine gC_10_indirect (pc := 43) fx hw kw_226 d_A_addressBitsOf_43 ?_
  refine lv_if_eq (pc := 46) (tgt := 55) hx hb d_A_addressBitsOf_46 (by decide) (fun c9 => ?_) (fun c9 => ?_)
  · replace h := h.1 c9
    refine lv_iconst (pc := 55) (v := 0) hx hb d_A_addressBitsOf_55 (by decide) ?_
    exact c_A_addressBitsOf_56  fx HR h hw (lv_sub hl [1, 2] rfl)
  · replace h := h.2 c9
    refine lv_sipush (pc := 49) (v := 1024) hx hb d_A_addressBitsOf_49 (by decide) ?_
    refine lv_goto (pc := 52) (tgt := 56) hx hb d_A_addressBitsOf_52 (by decide) ?_
    exact c_A_addressBitsOf_56  fx HR h hw (lv_sub hl [1, 2] rfl)
set_option maxHeartbeats 4000000 in
set_option maxRecDepth 100000 in
theorem c_A_addressBitsOf_31 (fx : CallFix p m c b_A_addressBitsOf 4 s args GW RNA) {post : Int32 → SS → Prop} (HR : RetI p l e r_A_addressBitsOf s m args below meth c Q D vcl (tyl cA) (wC cA a) (XC ad) A b_A_addressBitsOf .int post) {σ : SS} {x1 : Int32} {x2 : Int32} {s0 : Int32} {H : Heap} {locs : List Loc} {ls : Array Slot} (h : f_A_addressBitsOf_31 post σ x1 x2 s0) (hw : CX D vcl (tyl cA) (wC cA a σ) (XC ad) A s H locs) (hl : lv_has ls 4 [(0, .ref (a 10)), (1, .int x1), (2, .int x2)]) : W p l e r_A_addressBitsOf s m args below meth c H locs 0 0 Q (F0 m 31 ls [.int s0]) := by
  have hx := fx.1
  have hb := fx.2.1
  unfold f_A_addressBitsOf_31 at h
  refine lv_istore_n (pc := 31) (lv' := [(3, .int s0), (0, .ref (a 10)), (1, .int x1), (2, .int x2)]) hx hb d_A_addressBitsOf_31 rfl hl (by decide) rfl (fun ls hl => ?_)
  refine lv_iload_n (pc := 32) hx hb d_A_addressBitsOf_32 rfl (lv_at hl 0 rfl) ?_
  refine lv_if_ne (pc := 33) (tgt := 42) hx hb d_A_addressBitsOf_33 (by decide) (fun c9 => ?_) (fun c9 => ?_)
  · replace h := h.2 c9
    exact c_A_addressBitsOf_42  fx HR h hw (lv_sub hl [1, 2, 3] rfl)
  · replace h := h.1 c9
    refine lv_aload_n (pc := 36) hx hb d_A_addressBitsOf_36 rfl (lv_at hl 1 rfl) ?_
    refine lv_bipush (pc := 37) (v := 6) hx hb d_A_addressBitsOf_37 (by decide) ?_
    refine rsV (pc := 39) hw (rnV (pc := 39) xtC fx hw (c_A_complain h _) cw_A_90 (rcC_10 hw) rfl ⟨Nat.le_of_ble_eq_true rfl, Nat.le_of_ble_eq_true rfl⟩ hl.1 (Nat.le_of_ble_eq_true rfl) d_A_addressBitsOf_39 ⟨Nat.zero_le _, Nat.zero_le _⟩) (fun σ_1 H locs hw h => ?_)
    exact c_A_addressBitsOf_42  fx HR h hw (lv_sub hl [1, 2, 3] rfl)
set_option maxHeartbeats 4000000 in
set_option maxRecDepth 100000 in
theorem e_A_addressBitsOf (fx : CallFix p m c b_A_addressBitsOf 4 s args GW RNA) {post : Int32 → SS → Prop} (HR : RetI p l e r_A_addressBitsOf s m args below meth c Q D vcl (tyl cA) (wC cA a) (XC ad) A b_A_addressBitsOf .int post) {σ : SS} {x1 : Int32} {x2 : Int32} {H : Heap} {locs : List Loc} {ls : Array Slot} (h : f_A_addressBitsOf post σ x1 x2) (hw : CX D vcl (tyl cA) (wC cA a σ) (XC ad) A s H locs) (hl : lv_has ls 4 [(0, .ref (a 10)), (1, .int x1), (2, .int x2)]) : W p l e r_A_addressBitsOf s m args below meth c H locs 0 0 Q (F0 m 0 ls []) := by
  have hx := fx.1
  have hb := fx.2.1
  unfold f_A_addressBitsOf at h
  refine lv_iload_n (pc := 0) hx hb d_A_addressBitsOf_0 rfl (lv_at hl 1 rfl) ?_
  refine lv_if_ne (pc := 1) (tgt := 14) hx hb d_A_addressBitsOf_1 (by decide) (fun c9 => ?_) (fun c9 => ?_)
  · replace h := h.2 c9
    refine lv_iload_n (pc := 14) hx hb d_A_addressBitsOf_14 rfl (lv_at hl 2 rfl) ?_
    refine lv_bipush (pc := 15) (v := (-128)) hx hb d_A_addressBitsOf_15 (by decide) ?_
    refine lv_icmp_lt (pc := 17) (tgt := 30) hx hb d_A_addressBitsOf_17 (by decide) (fun c9 => ?_) (fun c9 => ?_)
    · replace h := h.1 c9
      refine lv_iconst (pc := 30) (v := 0) hx hb d_A_addressBitsOf_30 (by decide) ?_
      exact c_A_addressBitsOf_31  fx HR h hw (lv_sub hl [0, 1, 2] rfl)
    · replace h := h.2 c9
      refine lv_iload_n (pc := 20) hx hb d_A_addressBitsOf_20 rfl (lv_at hl 2 rfl) ?_
      refine lv_bipush (pc := 21) (v := 127) hx hb d_A_addressBitsOf_21 (by decide) ?_
      refine lv_icmp_gt (pc := 23) (tgt := 30) hx hb d_A_addressBitsOf_23 (by decide) (fun c9 => ?_) (fun c9 => ?_)
      · replace h := h.1 c9
        refine lv_iconst (pc := 30) (v := 0) hx hb d_A_addressBitsOf_30 (by decide) ?_
        exact c_A_addressBitsOf_31  fx HR h hw (lv_sub hl [0, 1, 2] rfl)
      · replace h := h.2 c9
        refine lv_iconst (pc := 26) (v := 1) hx hb d_A_addressBitsOf_26 (by decide) ?_
        refine lv_goto (pc := 27) (tgt := 31) hx hb d_A_addressBitsOf_27 (by decide) ?_
        exact c_A_addressBitsOf_31  fx HR h hw (lv_sub hl [0, 1, 2] rfl)
  · replace h := h.1 c9
    refine lv_iload_n (pc := 4) hx hb d_A_addressBitsOf_4 rfl (lv_at hl 2 rfl) ?_
    refine lv_sipush (pc := 5) (v := 255) hx hb d_A_addressBitsOf_5 (by decide) ?_
    refine rsI (pc := 8) hw (rnN (n := 2) (pc := 8) xtC fx hw (c_N_isWithin h _) (xc_NW hw.2.2.2.2.2) kw_611 kw_1 kw_612 (by decide +kernel) rfl ⟨Nat.le_of_ble_eq_true rfl, Nat.le_of_ble_eq_true rfl⟩ hl.1 (Nat.le_of_ble_eq_true rfl) d_A_addressBitsOf_8 ⟨Nat.zero_le _, Nat.zero_le _⟩) (fun r_4 σ_3 H locs hw h => ?_)
    have zr_4 := h.1
    replace h := h.2
    refine lv_goto (pc := 11) (tgt := 31) hx hb d_A_addressBitsOf_11 (by decide) ?_
    exact c_A_addressBitsOf_31  fx HR h hw (lv_sub hl [0, 1, 2] rfl)
end
theorem c_A_addressBitsOf {l : Launch} {D : va_G} {cA : Nat → ClassId} {a : Nat → Nat} {ad : Nat → Nat → Nat} {σ : SS} {post : Int32 → SS → Prop} {x1 : Int32} {x2 : Int32} (h : f_A_addressBitsOf post σ x1 x2) : mI l y_A_addressBitsOf b_A_addressBitsOf 4 (some .int) 1 21 D vcl (tyl cA) (wC cA a) (XC ad) σ [.ref (a 10), .int x1, .int x2] post := met_I (by decide) (Nat.le_of_ble_eq_true rfl) (fun p e s m args below meth c A Q fx HR H ls hw hl => e_A_addressBitsOf  fx HR h hw hl)
abbrev r_A_addressBits : Room := { frames := 2, cells := 0, slots := 0, locals := 44 }
def f_A_addressBits_100 (post : Int32 → SS → Prop) (σ : SS) (s0 : Int32) (s1 : Int32) : Prop := f_A_addressBitsOf (fun r_2 σ_1 => post r_2 σ_1) σ s1 s0
def f_A_addressBits_76 (post : Int32 → SS → Prop) (σ : SS) (x2 : Int32) (x4 : Int32) : Prop := br (x4 = 0) (f_A_addressBits_100 post σ x2 x4) (br (x2 < 32768) (f_A_addressBits_100 post σ x2 x4) (f_A_addressBits_100 post σ ((x2 - 65535) - 1) x4))
def f_A_addressBits_51 (post : Int32 → SS → Prop) (σ : SS) (x2 : Int32) (x3 : Int32) (s0 : Int32) : Prop := br (x3 = 0) (br (s0 = 1) (f_A_addressBitsOf (fun r_4 σ_3 => post r_4 σ_3) σ s0 (x2 - (σ.1 30))) (f_A_addressBits_76 post σ x2 s0)) (f_A_addressBits_76 post σ x2 s0)
def f_A_addressBits_23 (post : Int32 → SS → Prop) (σ : SS) (x1 : Int32) (x2 : Int32) (s0 : Int32) : Prop := br (s0 = 0) (br (256 ≤ x2) (f_A_addressBits_51 post σ x2 s0 1) (f_A_addressBits_51 post σ x2 s0 0)) (f_A_bounded (fun r_6 σ_5 => f_A_addressBits_51 post σ_5 x2 s0 r_6) σ (x1 + 1) 3)
def f_A_addressBits (post : Int32 → SS → Prop) (σ : SS) (x1 : Int32) : Prop := f_A_bounded (fun r_8 σ_7 => br ((σ_7.1 27) ≤ (x1 + 1)) (f_A_addressBits_23 post σ_7 x1 r_8 0) (f_A_addressBits_23 post σ_7 x1 r_8 1)) σ x1 65535
section
variable {p : Program} {l : Launch} {e : Env} {s : State} {m : MethodId} {args : Array Value} {below : List Frame} {meth : Method} {c : Code} {Q : State → Prop} {D : va_G} {cA : Nat → ClassId} {a : Nat → Nat} {ad : Nat → Nat → Nat} {A : Nat → Prop}
set_option maxHeartbeats 4000000 in
set_option maxRecDepth 100000 in
theorem c_A_addressBits_100 (fx : CallFix p m c b_A_addressBits 5 s args GW RNA) {post : Int32 → SS → Prop} (HR : RetI p l e r_A_addressBits s m args below meth c Q D vcl (tyl cA) (wC cA a) (XC ad) A b_A_addressBits .int post) {σ : SS} {s0 : Int32} {s1 : Int32} {H : Heap} {locs : List Loc} {ls : Array Slot} (h : f_A_addressBits_100 post σ s0 s1) (hw : CX D vcl (tyl cA) (wC cA a σ) (XC ad) A s H locs) (hl : lv_has ls 5 []) : W p l e r_A_addressBits s m args below meth c H locs 0 0 Q (F0 m 100 ls [.int s0, .int s1, .ref (a 10)]) := by
  have hx := fx.1
  have hb := fx.2.1
  unfold f_A_addressBits_100 at h
  refine rsI (pc := 100) hw (rnV (pc := 100) xtC fx hw (c_A_addressBitsOf h _) cw_A_199 (rcC_10 hw) rfl ⟨Nat.le_of_ble_eq_true rfl, Nat.le_of_ble_eq_true rfl⟩ hl.1 (Nat.le_of_ble_eq_true rfl) d_A_addressBits_100 ⟨Nat.zero_le _, Nat.zero_le _⟩) (fun r_2 σ_1 H locs hw h => ?_)
  exact HR rfl d_A_addressBits_103 h hw
set_option maxHeartbeats 4000000 in
set_option maxRecDepth 100000 in
theorem c_A_addressBits_76 (fx : CallFix p m c b_A_addressBits 5 s args GW RNA) {post : Int32 → SS → Prop} (HR : RetI p l e r_A_addressBits s m args below meth c Q D vcl (tyl cA) (wC cA a) (XC ad) A b_A_addressBits .int post) {σ : SS} {x2 : Int32} {x4 : Int32} {H : Heap} {locs : List Loc} {ls : Array Slot} (h : f_A_addressBits_76 post σ x2 x4) (hw : CX D vcl (tyl cA) (wC cA a σ) (XC ad) A s H locs) (hl : lv_has ls 5 [(0, .ref (a 10)), (2, .int x2), (4, .int x4)]) : W p l e r_A_addressBits s m args below meth c H locs 0 0 Q (F0 m 76 ls []) := by
  have hx := fx.1
  have hb := fx.2.1
  unfold f_A_addressBits_76 at h
  refine lv_aload_n (pc := 76) hx hb d_A_addressBits_76 rfl (lv_at hl 0 rfl) ?_
  refine lv_iload (pc := 77) hx hb d_A_addressBits_77 (lv_at hl 2 rfl) ?_
  refine lv_iload (pc := 79) hx hb d_A_addressBits_79 (lv_at hl 2 rfl) ?_
  refine lv_if_eq (pc := 81) (tgt := 99) hx hb d_A_addressBits_81 (by decide) (fun c9 => ?_) (fun c9 => ?_)
  · replace h := h.1 c9
    refine lv_iload_n (pc := 99) hx hb d_A_addressBits_99 rfl (lv_at hl 1 rfl) ?_
    exact c_A_addressBits_100  fx HR h hw (lv_sub hl [] rfl)
  · replace h := h.2 c9
    refine lv_iload_n (pc := 84) hx hb d_A_addressBits_84 rfl (lv_at hl 1 rfl) ?_
    refine lv_ldc (pc := 85) (v := 32768) hx hb fx.2.2.2.1 (fx.2.2.2.2 _ kw_597) d_A_addressBits_85 ?_
    refine lv_icmp_lt (pc := 87) (tgt := 99) hx hb d_A_addressBits_87 (by decide) (fun c9 => ?_) (fun c9 => ?_)
    · replace h := h.1 c9
      refine lv_iload_n (pc := 99) hx hb d_A_addressBits_99 rfl (lv_at hl 1 rfl) ?_
      exact c_A_addressBits_100  fx HR h hw (lv_sub hl [] rfl)
    · replace h := h.2 c9
      refine lv_iload_n (pc := 90) hx hb d_A_addressBits_90 rfl (lv_at hl 1 rfl) ?_
      refine lv_ldc (pc := 91) (v := 65535) hx hb fx.2.2.2.1 (fx.2.2.2.2 _ kw_587) d_A_addressBits_91 ?_
      refine lv_isub (pc := 93) hx hb d_A_addressBits_93 ?_
      refine lv_iconst (pc := 94) (v := 1) hx hb d_A_addressBits_94 (by decide) ?_
      refine lv_isub (pc := 95) hx hb d_A_addressBits_95 ?_
      refine lv_goto (pc := 96) (tgt := 100) hx hb d_A_addressBits_96 (by decide) ?_
      exact c_A_addressBits_100  fx HR h hw (lv_sub hl [] rfl)
set_option maxHeartbeats 4000000 in
set_option maxRecDepth 100000 in
theorem c_A_addressBits_51 (fx : CallFix p m c b_A_addressBits 5 s args GW RNA) {post : Int32 → SS → Prop} (HR : RetI p l e r_A_addressBits s m args below meth c Q D vcl (tyl cA) (wC cA a) (XC ad) A b_A_addressBits .int post) {σ : SS} {x2 : Int32} {x3 : Int32} {s0 : Int32} {H : Heap} {locs : List Loc} {ls : Array Slot} (h : f_A_addressBits_51 post σ x2 x3 s0) (hw : CX D vcl (tyl cA) (wC cA a σ) (XC ad) A s H locs) (hl : lv_has ls 5 [(0, .ref (a 10)), (2, .int x2), (3, .int x3)]) : W p l e r_A_addressBits s m args below meth c H locs 0 0 Q (F0 m 51 ls [.int s0]) := by
  have hx := fx.1
  have hb := fx.2.1
  unfold f_A_addressBits_51 at h
  refine lv_istore (pc := 51) (lv' := [(4, .int s0), (0, .ref (a 10)), (2, .int x2), (3, .int x3)]) hx hb d_A_addressBits_51 hl (by decide) rfl (fun ls hl => ?_)
  refine lv_iload_n (pc := 53) hx hb d_A_addressBits_53 rfl (lv_at hl 3 rfl) ?_
  refine lv_if_ne (pc := 54) (tgt := 76) hx hb d_A_addressBits_54 (by decide) (fun c9 => ?_) (fun c9 => ?_)
  · replace h := h.2 c9
    exact c_A_addressBits_76  fx HR h hw (lv_sub hl [1, 2, 0] rfl)
  · replace h := h.1 c9
    refine lv_iload (pc := 57) hx hb d_A_addressBits_57 (lv_at hl 0 rfl) ?_
    refine lv_iconst (pc := 59) (v := 1) hx hb d_A_addressBits_59 (by decide) ?_
    refine lv_icmp_ne (pc := 60) (tgt := 76) hx hb d_A_addressBits_60 (by decide) (fun c9 => ?_) (fun c9 => ?_)
    · replace h := h.2 c9
      exact c_A_addressBits_76  fx HR h hw (lv_sub hl [1, 2, 0] rfl)
    · replace h := h.1 c9
      refine lv_aload_n (pc := 63) hx hb d_A_addressBits_63 rfl (lv_at hl 1 rfl) ?_
      refine lv_iload (pc := 64) hx hb d_A_addressBits_64 (lv_at hl 0 rfl) ?_
      refine lv_iload_n (pc := 66) hx hb d_A_addressBits_66 rfl (lv_at hl 2 rfl) ?_
      refine lv_aload_n (pc := 67) hx hb d_A_addressBits_67 rfl (lv_at hl 1 rfl) ?_
      refine gC_10_location (pc := 68) fx hw kw_228 d_A_addressBits_68 ?_
      refine lv_isub (pc := 71) hx hb d_A_addressBits_71 ?_
      refine rsI (pc := 72) hw (rnV (pc := 72) xtC fx hw (c_A_addressBitsOf h _) cw_A_199 (rcC_10 hw) rfl ⟨Nat.le_of_ble_eq_true rfl, Nat.le_of_ble_eq_true rfl⟩ hl.1 (Nat.le_of_ble_eq_true rfl) d_A_addressBits_72 ⟨Nat.zero_le _, Nat.zero_le _⟩) (fun r_4 σ_3 H locs hw h => ?_)
      exact HR rfl d_A_addressBits_75 h hw
set_option maxHeartbeats 4000000 in
set_option maxRecDepth 100000 in
theorem c_A_addressBits_23 (fx : CallFix p m c b_A_addressBits 5 s args GW RNA) {post : Int32 → SS → Prop} (HR : RetI p l e r_A_addressBits s m args below meth c Q D vcl (tyl cA) (wC cA a) (XC ad) A b_A_addressBits .int post) {σ : SS} {x1 : Int32} {x2 : Int32} {s0 : Int32} {H : Heap} {locs : List Loc} {ls : Array Slot} (h : f_A_addressBits_23 post σ x1 x2 s0) (hw : CX D vcl (tyl cA) (wC cA a σ) (XC ad) A s H locs) (hl : lv_has ls 5 [(0, .ref (a 10)), (1, .int x1), (2, .int x2)]) : W p l e r_A_addressBits s m args below meth c H locs 0 0 Q (F0 m 23 ls [.int s0]) := by
  have hx := fx.1
  have hb := fx.2.1
  unfold f_A_addressBits_23 at h
  refine lv_istore_n (pc := 23) (lv' := [(3, .int s0), (0, .ref (a 10)), (1, .int x1), (2, .int x2)]) hx hb d_A_addressBits_23 rfl hl (by decide) rfl (fun ls hl => ?_)
  refine lv_iload_n (pc := 24) hx hb d_A_addressBits_24 rfl (lv_at hl 0 rfl) ?_
  refine lv_if_eq (pc := 25) (tgt := 39) hx hb d_A_addressBits_25 (by decide) (fun c9 => ?_) (fun c9 => ?_)
  · replace h := h.1 c9
    refine lv_iload_n (pc := 39) hx hb d_A_addressBits_39 rfl (lv_at hl 3 rfl) ?_
    refine lv_sipush (pc := 40) (v := 256) hx hb d_A_addressBits_40 (by decide) ?_
    refine lv_icmp_ge (pc := 43) (tgt := 50) hx hb d_A_addressBits_43 (by decide) (fun c9 => ?_) (fun c9 => ?_)
    · replace h := h.1 c9
      refine lv_iconst (pc := 50) (v := 1) hx hb d_A_addressBits_50 (by decide) ?_
      exact c_A_addressBits_51  fx HR h hw (lv_sub hl [1, 3, 0] rfl)
    · replace h := h.2 c9
      refine lv_iconst (pc := 46) (v := 0) hx hb d_A_addressBits_46 (by decide) ?_
      refine lv_goto (pc := 47) (tgt := 51) hx hb d_A_addressBits_47 (by decide) ?_
      exact c_A_addressBits_51  fx HR h hw (lv_sub hl [1, 3, 0] rfl)
  · replace h := h.2 c9
    refine lv_aload_n (pc := 28) hx hb d_A_addressBits_28 rfl (lv_at hl 1 rfl) ?_
    refine lv_iload_n (pc := 29) hx hb d_A_addressBits_29 rfl (lv_at hl 2 rfl) ?_
    refine lv_iconst (pc := 30) (v := 1) hx hb d_A_addressBits_30 (by decide) ?_
    refine lv_iadd (pc := 31) hx hb d_A_addressBits_31 ?_
    refine lv_iconst (pc := 32) (v := 3) hx hb d_A_addressBits_32 (by decide) ?_
    refine rsI (pc := 33) hw (rnV (pc := 33) xtC fx hw (c_A_bounded h _) cw_A_189 (rcC_10 hw) rfl ⟨Nat.le_of_ble_eq_true rfl, Nat.le_of_ble_eq_true rfl⟩ hl.1 (Nat.le_of_ble_eq_true rfl) d_A_addressBits_33 ⟨Nat.zero_le _, Nat.zero_le _⟩) (fun r_6 σ_5 H locs hw h => ?_)
    refine lv_goto (pc := 36) (tgt := 51) hx hb d_A_addressBits_36 (by decide) ?_
    exact c_A_addressBits_51  fx HR h hw (lv_sub hl [1, 3, 0] rfl)
set_option maxHeartbeats 4000000 in
set_option maxRecDepth 100000 in
theorem e_A_addressBits (fx : CallFix p m c b_A_addressBits 5 s args GW RNA) {post : Int32 → SS → Prop} (HR : RetI p l e r_A_addressBits s m args below meth c Q D vcl (tyl cA) (wC cA a) (XC ad) A b_A_addressBits .int post) {σ : SS} {x1 : Int32} {H : Heap} {locs : List Loc} {ls : Array Slot} (h : f_A_addressBits post σ x1) (hw : CX D vcl (tyl cA) (wC cA a σ) (XC ad) A s H locs) (hl : lv_has ls 5 [(0, .ref (a 10)), (1, .int x1)]) : W p l e r_A_addressBits s m args below meth c H locs 0 0 Q (F0 m 0 ls []) := by
  have hx := fx.1
  have hb := fx.2.1
  unfold f_A_addressBits at h
  refine lv_aload_n (pc := 0) hx hb d_A_addressBits_0 rfl (lv_at hl 0 rfl) ?_
  refine lv_iload_n (pc := 1) hx hb d_A_addressBits_1 rfl (lv_at hl 1 rfl) ?_
  refine lv_ldc (pc := 2) (v := 65535) hx hb fx.2.2.2.1 (fx.2.2.2.2 _ kw_587) d_A_addressBits_2 ?_
  refine rsI (pc := 4) hw (rnV (pc := 4) xtC fx hw (c_A_bounded h _) cw_A_189 (rcC_10 hw) rfl ⟨Nat.le_of_ble_eq_true rfl, Nat.le_of_ble_eq_true rfl⟩ hl.1 (Nat.le_of_ble_eq_true rfl) d_A_addressBits_4 ⟨Nat.zero_le _, Nat.zero_le _⟩) (fun r_8 σ_7 H locs hw h => ?_)
  refine lv_istore_n (pc := 7) (lv' := [(2, .int r_8), (0, .ref (a 10)), (1, .int x1)]) hx hb d_A_addressBits_7 rfl hl (by decide) rfl (fun ls hl => ?_)
  refine lv_aload_n (pc := 8) hx hb d_A_addressBits_8 rfl (lv_at hl 1 rfl) ?_
  refine gC_10_operandCount (pc := 9) fx hw kw_225 d_A_addressBits_9 ?_
  refine lv_iload_n (pc := 12) hx hb d_A_addressBits_12 rfl (lv_at hl 2 rfl) ?_
  refine lv_iconst (pc := 13) (v := 1) hx hb d_A_addressBits_13 (by decide) ?_
  refine lv_iadd (pc := 14) hx hb d_A_addressBits_14 ?_
  refine lv_icmp_le (pc := 15) (tgt := 22) hx hb d_A_addressBits_15 (by decide) (fun c9 => ?_) (fun c9 => ?_)
  · replace h := h.1 c9
    refine lv_iconst (pc := 22) (v := 0) hx hb d_A_addressBits_22 (by decide) ?_
    exact c_A_addressBits_23  fx HR h hw (lv_sub hl [1, 2, 0] rfl)
  · replace h := h.2 c9
    refine lv_iconst (pc := 18) (v := 1) hx hb d_A_addressBits_18 (by decide) ?_
    refine lv_goto (pc := 19) (tgt := 23) hx hb d_A_addressBits_19 (by decide) ?_
    exact c_A_addressBits_23  fx HR h hw (lv_sub hl [1, 2, 0] rfl)
end
theorem c_A_addressBits {l : Launch} {D : va_G} {cA : Nat → ClassId} {a : Nat → Nat} {ad : Nat → Nat → Nat} {σ : SS} {post : Int32 → SS → Prop} {x1 : Int32} (h : f_A_addressBits post σ x1) : mI l y_A_addressBits b_A_addressBits 5 (some .int) 2 44 D vcl (tyl cA) (wC cA a) (XC ad) σ [.ref (a 10), .int x1] post := met_I (by decide) (Nat.le_of_ble_eq_true rfl) (fun p e s m args below meth c A Q fx HR H ls hw hl => e_A_addressBits  fx HR h hw hl)
abbrev r_A_skipBits : Room := { frames := 2, cells := 0, slots := 0, locals := 44 }
def f_A_skipBits (post : Int32 → SS → Prop) (σ : SS) : Prop := br ((σ.1 27) ≤ 2) (post 0 σ) (f_A_bounded (fun r_2 σ_1 => post r_2 σ_1) σ 2 7)
section
variable {p : Program} {l : Launch} {e : Env} {s : State} {m : MethodId} {args : Array Value} {below : List Frame} {meth : Method} {c : Code} {Q : State → Prop} {D : va_G} {cA : Nat → ClassId} {a : Nat → Nat} {ad : Nat → Nat → Nat} {A : Nat → Prop}
set_option maxHeartbeats 4000000 in
set_option maxRecDepth 100000 in
theorem e_A_skipBits (fx : CallFix p m c b_A_skipBits 1 s args GW RNA) {post : Int32 → SS → Prop} (HR : RetI p l e r_A_skipBits s m args below meth c Q D vcl (tyl cA) (wC cA a) (XC ad) A b_A_skipBits .int post) {σ : SS} {H : Heap} {locs : List Loc} {ls : Array Slot} (h : f_A_skipBits post σ) (hw : CX D vcl (tyl cA) (wC cA a σ) (XC ad) A s H locs) (hl : lv_has ls 1 [(0, .ref (a 10))]) : W p l e r_A_skipBits s m args below meth c H locs 0 0 Q (F0 m 0 ls []) := by
  have hx := fx.1
  have hb := fx.2.1
  unfold f_A_skipBits at h
  refine lv_aload_n (pc := 0) hx hb d_A_skipBits_0 rfl (lv_at hl 0 rfl) ?_
  refine gC_10_operandCount (pc := 1) fx hw kw_225 d_A_skipBits_1 ?_
  refine lv_iconst (pc := 4) (v := 2) hx hb d_A_skipBits_4 (by decide) ?_
  refine lv_icmp_le (pc := 5) (tgt := 18) hx hb d_A_skipBits_5 (by decide) (fun c9 => ?_) (fun c9 => ?_)
  · replace h := h.1 c9
    refine lv_iconst (pc := 18) (v := 0) hx hb d_A_skipBits_18 (by decide) ?_
    exact HR rfl d_A_skipBits_19 h hw
  · replace h := h.2 c9
    refine lv_aload_n (pc := 8) hx hb d_A_skipBits_8 rfl (lv_at hl 0 rfl) ?_
    refine lv_iconst (pc := 9) (v := 2) hx hb d_A_skipBits_9 (by decide) ?_
    refine lv_bipush (pc := 10) (v := 7) hx hb d_A_skipBits_10 (by decide) ?_
    refine rsI (pc := 12) hw (rnV (pc := 12) xtC fx hw (c_A_bounded h _) cw_A_189 (rcC_10 hw) rfl ⟨Nat.le_of_ble_eq_true rfl, Nat.le_of_ble_eq_true rfl⟩ hl.1 (Nat.le_of_ble_eq_true rfl) d_A_skipBits_12 ⟨Nat.zero_le _, Nat.zero_le _⟩) (fun r_2 σ_1 H locs hw h => ?_)
    refine lv_goto (pc := 15) (tgt := 19) hx hb d_A_skipBits_15 (by decide) ?_
    exact HR rfl d_A_skipBits_19 h hw
end
theorem c_A_skipBits {l : Launch} {D : va_G} {cA : Nat → ClassId} {a : Nat → Nat} {ad : Nat → Nat → Nat} {σ : SS} {post : Int32 → SS → Prop} (h : f_A_skipBits post σ) : mI l y_A_skipBits b_A_skipBits 1 (some .int) 2 44 D vcl (tyl cA) (wC cA a) (XC ad) σ [.ref (a 10)] post := met_I (by decide) (Nat.le_of_ble_eq_true rfl) (fun p e s m args below meth c A Q fx HR H ls hw hl => e_A_skipBits  fx HR h hw hl)
abbrev r_A_operandBits : Room := { frames := 3, cells := 0, slots := 0, locals := 68 }
def f_A_operandBits (post : Int32 → SS → Prop) (σ : SS) (x1 : Int32) : Prop := br (x1 = (2 : Int32)) (f_A_addressBits (fun r_3 σ_2 => post r_3 σ_2) σ 0) (br (x1 = (3 : Int32)) (f_A_bounded (fun r_6 σ_5 => f_A_addressBits (fun r_8 σ_7 => post ((r_6 <<< ((11 : Int32) &&& 31)) ||| r_8) σ_7) σ_5 1) σ 0 3) (br (x1 = (4 : Int32)) (f_A_bounded (fun r_11 σ_10 => f_A_bounded (fun r_13 σ_12 => f_A_skipBits (fun r_15 σ_14 => post (((r_11 <<< ((13 : Int32) &&& 31)) ||| (r_13 <<< ((11 : Int32) &&& 31))) ||| r_15) σ_14) σ_12) σ_10 1 3) σ 0 3) (br (x1 = (5 : Int32)) (f_A_bounded (fun r_18 σ_17 => post r_18 σ_17) σ 0 63) (br (x1 = (6 : Int32)) (f_A_bounded (fun r_21 σ_20 => f_A_bounded (fun r_23 σ_22 => post ((r_21 <<< ((11 : Int32) &&& 31)) ||| r_23) σ_22) σ_20 1 63) σ 0 3) (br (x1 = (7 : Int32)) (f_A_bounded (fun r_26 σ_25 => post r_26 σ_25) σ 0 63) (br (x1 = (8 : Int32)) (post 0 σ) (br (x1 = (9 : Int32)) (f_A_bounded (fun r_30 σ_29 => post (r_30 <<< ((11 : Int32) &&& 31)) σ_29) σ 0 3) (br (x1 = (10 : Int32)) (vp_in (0 : Int32) 3 ∧ post (σ.2.1 22 (0 : Int32).toNatClampNeg) σ) (post 0 σ)))))))))
section
variable {p : Program} {l : Launch} {e : Env} {s : State} {m : MethodId} {args : Array Value} {below : List Frame} {meth : Method} {c : Code} {Q : State → Prop} {D : va_G} {cA : Nat → ClassId} {a : Nat → Nat} {ad : Nat → Nat → Nat} {A : Nat → Prop}
set_option maxHeartbeats 4000000 in
set_option maxRecDepth 100000 in
theorem e_A_operandBits (fx : CallFix p m c b_A_operandBits 2 s args GW RNA) {post : Int32 → SS → Prop} (HR : RetI p l e r_A_operandBits s m args below meth c Q D vcl (tyl cA) (wC cA a) (XC ad) A b_A_operandBits .int post) {σ : SS} {x1 : Int32} {H : Heap} {locs : List Loc} {ls : Array Slot} (h : f_A_operandBits post σ x1) (hw : CX D vcl (tyl cA) (wC cA a σ) (XC ad) A s H locs) (hl : lv_has ls 2 [(0, .ref (a 10)), (1, .int x1)]) : W p l e r_A_operandBits s m args below meth c H locs 0 0 Q (F0 m 0 ls []) := by
  have hx := fx.1
  have hb := fx.2.1
  unfold f_A_operandBits at h
  refine lv_iload_n (pc := 0) hx hb d_A_operandBits_0 rfl (lv_at hl 1 rfl) ?_
  by_cases cq_1 : x1 = (2 : Int32)
  · replace h := h.1 cq_1
    refine lv_tableIn (pc := 1) (off := 51) (tgt := 52) hx hb d_A_operandBits_1 (by rw [cq_1]; decide) (by rw [cq_1]; decide) (by rw [cq_1]; rfl) (by decide) ?_
    refine lv_aload_n (pc := 52) hx hb d_A_operandBits_52 rfl (lv_at hl 0 rfl) ?_
    refine lv_iconst (pc := 53) (v := 0) hx hb d_A_operandBits_53 (by decide) ?_
    refine rsI (pc := 54) hw (rnV (pc := 54) xtC fx hw (c_A_addressBits h _) cw_A_193 (rcC_10 hw) rfl ⟨Nat.le_of_ble_eq_true rfl, Nat.le_of_ble_eq_true rfl⟩ hl.1 (Nat.le_of_ble_eq_true rfl) d_A_operandBits_54 ⟨Nat.zero_le _, Nat.zero_le _⟩) (fun r_3 σ_2 H locs hw h => ?_)
    exact HR rfl d_A_operandBits_57 h hw
  replace h := h.2 cq_1
  by_cases cq_4 : x1 = (3 : Int32)
  · replace h := h.1 cq_4
    refine lv_tableIn (pc := 1) (off := 57) (tgt := 58) hx hb d_A_operandBits_1 (by rw [cq_4]; decide) (by rw [cq_4]; decide) (by rw [cq_4]; rfl) (by decide) ?_
    refine lv_aload_n (pc := 58) hx hb d_A_operandBits_58 rfl (lv_at hl 0 rfl) ?_
    refine lv_iconst (pc := 59) (v := 0) hx hb d_A_operandBits_59 (by decide) ?_
    refine lv_iconst (pc := 60) (v := 3) hx hb d_A_operandBits_60 (by decide) ?_
    refine rsI (pc := 61) hw (rnV (pc := 61) xtC fx hw (c_A_bounded h _) cw_A_189 (rcC_10 hw) rfl ⟨Nat.le_of_ble_eq_true rfl, Nat.le_of_ble_eq_true rfl⟩ hl.1 (Nat.le_of_ble_eq_true rfl) d_A_operandBits_61 ⟨Nat.zero_le _, Nat.zero_le _⟩) (fun r_6 σ_5 H locs hw h => ?_)
    refine lv_bipush (pc := 64) (v := 11) hx hb d_A_operandBits_64 (by decide) ?_
    refine lv_ishl (pc := 66) hx hb d_A_operandBits_66 ?_
    refine lv_aload_n (pc := 67) hx hb d_A_operandBits_67 rfl (lv_at hl 0 rfl) ?_
    refine lv_iconst (pc := 68) (v := 1) hx hb d_A_operandBits_68 (by decide) ?_
    refine rsI (pc := 69) hw (rnV (pc := 69) xtC fx hw (c_A_addressBits h _) cw_A_193 (rcC_10 hw) rfl ⟨Nat.le_of_ble_eq_true rfl, Nat.le_of_ble_eq_true rfl⟩ hl.1 (Nat.le_of_ble_eq_true rfl) d_A_operandBits_69 ⟨Nat.zero_le _, Nat.zero_le _⟩) (fun r_8 σ_7 H locs hw h => ?_)
    refine lv_ior (pc := 72) hx hb d_A_operandBits_72 ?_
    exact HR rfl d_A_operandBits_73 h hw
  replace h := h.2 cq_4
  by_cases cq_9 : x1 = (4 : Int32)
  · replace h := h.1 cq_9
    refine lv_tableIn (pc := 1) (off := 73) (tgt := 74) hx hb d_A_operandBits_1 (by rw [cq_9]; decide) (by rw [cq_9]; decide) (by rw [cq_9]; rfl) (by decide) ?_
    refine lv_aload_n (pc := 74) hx hb d_A_operandBits_74 rfl (lv_at hl 0 rfl) ?_
    refine lv_iconst (pc := 75) (v := 0) hx hb d_A_operandBits_75 (by decide) ?_
    refine lv_iconst (pc := 76) (v := 3) hx hb d_A_operandBits_76 (by decide) ?_
    refine rsI (pc := 77) hw (rnV (pc := 77) xtC fx hw (c_A_bounded h _) cw_A_189 (rcC_10 hw) rfl ⟨Nat.le_of_ble_eq_true rfl, Nat.le_of_ble_eq_true rfl⟩ hl.1 (Nat.le_of_ble_eq_true rfl) d_A_operandBits_77 ⟨Nat.zero_le _, Nat.zero_le _⟩) (fun r_11 σ_10 H locs hw h => ?_)
    refine lv_bipush (pc := 80) (v := 13) hx hb d_A_operandBits_80 (by decide) ?_
    refine lv_ishl (pc := 82) hx hb d_A_operandBits_82 ?_
    refine lv_aload_n (pc := 83) hx hb d_A_operandBits_83 rfl (lv_at hl 0 rfl) ?_
    refine lv_iconst (pc := 84) (v := 1) hx hb d_A_operandBits_84 (by decide) ?_
    refine lv_iconst (pc := 85) (v := 3) hx hb d_A_operandBits_85 (by decide) ?_
    refine rsI (pc := 86) hw (rnV (pc := 86) xtC fx hw (c_A_bounded h _) cw_A_189 (rcC_10 hw) rfl ⟨Nat.le_of_ble_eq_true rfl, Nat.le_of_ble_eq_true rfl⟩ hl.1 (Nat.le_of_ble_eq_true rfl) d_A_operandBits_86 ⟨Nat.zero_le _, Nat.zero_le _⟩) (fun r_13 σ_12 H locs hw h => ?_)
    refine lv_bipush (pc := 89) (v := 11) hx hb d_A_operandBits_89 (by decide) ?_
    refine lv_ishl (pc := 91) hx hb d_A_operandBits_91 ?_
    refine lv_ior (pc := 92) hx hb d_A_operandBits_92 ?_
    refine lv_aload_n (pc := 93) hx hb d_A_operandBits_93 rfl (lv_at hl 0 rfl) ?_
    refine rsI (pc := 94) hw (rnV (pc := 94) xtC fx hw (c_A_skipBits h _) cw_A_196 (rcC_10 hw) rfl ⟨Nat.le_of_ble_eq_true rfl, Nat.le_of_ble_eq_true rfl⟩ hl.1 (Nat.le_of_ble_eq_true rfl) d_A_operandBits_94 ⟨Nat.zero_le _, Nat.zero_le _⟩) (fun r_15 σ_14 H locs hw h => ?_)
    refine lv_ior (pc := 97) hx hb d_A_operandBits_97 ?_
    exact HR rfl d_A_operandBits_98 h hw
  replace h := h.2 cq_9
  by_cases cq_16 : x1 = (5 : Int32)
  · replace h := h.1 cq_16
    refine lv_tableIn (pc := 1) (off := 98) (tgt := 99) hx hb d_A_operandBits_1 (by rw [cq_16]; decide) (by rw [cq_16]; decide) (by rw [cq_16]; rfl) (by decide) ?_
    refine lv_aload_n (pc := 99) hx hb d_A_operandBits_99 rfl (lv_at hl 0 rfl) ?_
    refine lv_iconst (pc := 100) (v := 0) hx hb d_A_operandBits_100 (by decide) ?_
    refine lv_bipush (pc := 101) (v := 63) hx hb d_A_operandBits_101 (by decide) ?_
    refine rsI (pc := 103) hw (rnV (pc := 103) xtC fx hw (c_A_bounded h _) cw_A_189 (rcC_10 hw) rfl ⟨Nat.le_of_ble_eq_true rfl, Nat.le_of_ble_eq_true rfl⟩ hl.1 (Nat.le_of_ble_eq_true rfl) d_A_operandBits_103 ⟨Nat.zero_le _, Nat.zero_le _⟩) (fun r_18 σ_17 H locs hw h => ?_)
    exact HR rfl d_A_operandBits_106 h hw
  replace h := h.2 cq_16
  by_cases cq_19 : x1 = (6 : Int32)
  · replace h := h.1 cq_19
    refine lv_tableIn (pc := 1) (off := 106) (tgt := 107) hx hb d_A_operandBits_1 (by rw [cq_19]; decide) (by rw [cq_19]; decide) (by rw [cq_19]; rfl) (by decide) ?_
    refine lv_aload_n (pc := 107) hx hb d_A_operandBits_107 rfl (lv_at hl 0 rfl) ?_
    refine lv_iconst (pc := 108) (v := 0) hx hb d_A_operandBits_108 (by decide) ?_
    refine lv_iconst (pc := 109) (v := 3) hx hb d_A_operandBits_109 (by decide) ?_
    refine rsI (pc := 110) hw (rnV (pc := 110) xtC fx hw (c_A_bounded h _) cw_A_189 (rcC_10 hw) rfl ⟨Nat.le_of_ble_eq_true rfl, Nat.le_of_ble_eq_true rfl⟩ hl.1 (Nat.le_of_ble_eq_true rfl) d_A_operandBits_110 ⟨Nat.zero_le _, Nat.zero_le _⟩) (fun r_21 σ_20 H locs hw h => ?_)
    refine lv_bipush (pc := 113) (v := 11) hx hb d_A_operandBits_113 (by decide) ?_
    refine lv_ishl (pc := 115) hx hb d_A_operandBits_115 ?_
    refine lv_aload_n (pc := 116) hx hb d_A_operandBits_116 rfl (lv_at hl 0 rfl) ?_
    refine lv_iconst (pc := 117) (v := 1) hx hb d_A_operandBits_117 (by decide) ?_
    refine lv_bipush (pc := 118) (v := 63) hx hb d_A_operandBits_118 (by decide) ?_
    refine rsI (pc := 120) hw (rnV (pc := 120) xtC fx hw (c_A_bounded h _) cw_A_189 (rcC_10 hw) rfl ⟨Nat.le_of_ble_eq_true rfl, Nat.le_of_ble_eq_true rfl⟩ hl.1 (Nat.le_of_ble_eq_true rfl) d_A_operandBits_120 ⟨Nat.zero_le _, Nat.zero_le _⟩) (fun r_23 σ_22 H locs hw h => ?_)
    refine lv_ior (pc := 123) hx hb d_A_operandBits_123 ?_
    exact HR rfl d_A_operandBits_124 h hw
  replace h := h.2 cq_19
  by_cases cq_24 : x1 = (7 : Int32)
  · replace h := h.1 cq_24
    refine lv_tableIn (pc := 1) (off := 98) (tgt := 99) hx hb d_A_operandBits_1 (by rw [cq_24]; decide) (by rw [cq_24]; decide) (by rw [cq_24]; rfl) (by decide) ?_
    refine lv_aload_n (pc := 99) hx hb d_A_operandBits_99 rfl (lv_at hl 0 rfl) ?_
    refine lv_iconst (pc := 100) (v := 0) hx hb d_A_operandBits_100 (by decide) ?_
    refine lv_bipush (pc := 101) (v := 63) hx hb d_A_operandBits_101 (by decide) ?_
    refine rsI (pc := 103) hw (rnV (pc := 103) xtC fx hw (c_A_bounded h _) cw_A_189 (rcC_10 hw) rfl ⟨Nat.le_of_ble_eq_true rfl, Nat.le_of_ble_eq_true rfl⟩ hl.1 (Nat.le_of_ble_eq_true rfl) d_A_operandBits_103 ⟨Nat.zero_le _, Nat.zero_le _⟩) (fun r_26 σ_25 H locs hw h => ?_)
    exact HR rfl d_A_operandBits_106 h hw
  replace h := h.2 cq_24
  by_cases cq_27 : x1 = (8 : Int32)
  · replace h := h.1 cq_27
    refine lv_tableIn (pc := 1) (off := 141) (tgt := 142) hx hb d_A_operandBits_1 (by rw [cq_27]; decide) (by rw [cq_27]; decide) (by rw [cq_27]; rfl) (by decide) ?_
    refine lv_iconst (pc := 142) (v := 0) hx hb d_A_operandBits_142 (by decide) ?_
    exact HR rfl d_A_operandBits_143 h hw
  replace h := h.2 cq_27
  by_cases cq_28 : x1 = (9 : Int32)
  · replace h := h.1 cq_28
    refine lv_tableIn (pc := 1) (off := 124) (tgt := 125) hx hb d_A_operandBits_1 (by rw [cq_28]; decide) (by rw [cq_28]; decide) (by rw [cq_28]; rfl) (by decide) ?_
    refine lv_aload_n (pc := 125) hx hb d_A_operandBits_125 rfl (lv_at hl 0 rfl) ?_
    refine lv_iconst (pc := 126) (v := 0) hx hb d_A_operandBits_126 (by decide) ?_
    refine lv_iconst (pc := 127) (v := 3) hx hb d_A_operandBits_127 (by decide) ?_
    refine rsI (pc := 128) hw (rnV (pc := 128) xtC fx hw (c_A_bounded h _) cw_A_189 (rcC_10 hw) rfl ⟨Nat.le_of_ble_eq_true rfl, Nat.le_of_ble_eq_true rfl⟩ hl.1 (Nat.le_of_ble_eq_true rfl) d_A_operandBits_128 ⟨Nat.zero_le _, Nat.zero_le _⟩) (fun r_30 σ_29 H locs hw h => ?_)
    refine lv_bipush (pc := 131) (v := 11) hx hb d_A_operandBits_131 (by decide) ?_
    refine lv_ishl (pc := 133) hx hb d_A_operandBits_133 ?_
    exact HR rfl d_A_operandBits_134 h hw
  replace h := h.2 cq_28
  by_cases cq_31 : x1 = (10 : Int32)
  · replace h := h.1 cq_31
    refine lv_tableIn (pc := 1) (off := 134) (tgt := 135) hx hb d_A_operandBits_1 (by rw [cq_31]; decide) (by rw [cq_31]; decide) (by rw [cq_31]; rfl) (by decide) ?_
    refine lv_aload_n (pc := 135) hx hb d_A_operandBits_135 rfl (lv_at hl 0 rfl) ?_
    refine gC_10_operands (pc := 136) fx hw kw_224 d_A_operandBits_136 ?_
    refine lv_iconst (pc := 139) (v := 0) hx hb d_A_operandBits_139 (by decide) ?_
    refine alC_22 (pc := 140) fx hw h.1 d_A_operandBits_140 ?_
    replace h := h.2
    exact HR rfl d_A_operandBits_141 h hw
  replace h := h.2 cq_31
  refine lv_tableOut (pc := 1) (tgt := 142) hx hb d_A_operandBits_1 (by have := lv_neT cq_1 (a := 2) (by decide); have := lv_neT cq_4 (a := 3) (by decide); have := lv_neT cq_9 (a := 4) (by decide); have := lv_neT cq_16 (a := 5) (by decide); have := lv_neT cq_19 (a := 6) (by decide); have := lv_neT cq_24 (a := 7) (by decide); have := lv_neT cq_27 (a := 8) (by decide); have := lv_neT cq_28 (a := 9) (by decide); have := lv_neT cq_31 (a := 10) (by decide); omega) (by decide) ?_
  refine lv_iconst (pc := 142) (v := 0) hx hb d_A_operandBits_142 (by decide) ?_
  exact HR rfl d_A_operandBits_143 h hw
end
theorem c_A_operandBits {l : Launch} {D : va_G} {cA : Nat → ClassId} {a : Nat → Nat} {ad : Nat → Nat → Nat} {σ : SS} {post : Int32 → SS → Prop} {x1 : Int32} (h : f_A_operandBits post σ x1) : mI l y_A_operandBits b_A_operandBits 2 (some .int) 3 68 D vcl (tyl cA) (wC cA a) (XC ad) σ [.ref (a 10), .int x1] post := met_I (by decide) (Nat.le_of_ble_eq_true rfl) (fun p e s m args below meth c A Q fx HR H ls hw hl => e_A_operandBits  fx HR h hw hl)
abbrev r_A_keepWord : Room := { frames := 0, cells := 0, slots := 0, locals := 0 }
def f_A_keepWord (post : SS → Prop) (σ : SS) (x1 : Int32) : Prop := br (3000 ≤ (σ.1 26)) (post σ) (vp_in (σ.1 26) 3000 ∧ nm (sA σ 20 (σ.1 26).toNatClampNeg (σ.1 30)) fun σ_1 => vp_in (σ_1.1 26) 3000 ∧ nm (sA σ_1 21 (σ_1.1 26).toNatClampNeg x1) fun σ_2 => nm (sI σ_2 26 ((σ_2.1 26) + 1)) fun σ_3 => post σ_3)
section
variable {p : Program} {l : Launch} {e : Env} {s : State} {m : MethodId} {args : Array Value} {below : List Frame} {meth : Method} {c : Code} {Q : State → Prop} {D : va_G} {cA : Nat → ClassId} {a : Nat → Nat} {ad : Nat → Nat → Nat} {A : Nat → Prop}
set_option maxHeartbeats 4000000 in
set_option maxRecDepth 100000 in
theorem e_A_keepWord (fx : CallFix p m c b_A_keepWord 2 s args GW RNA) {post : SS → Prop} (HR : RetV p l e r_A_keepWord s m args below meth c Q D vcl (tyl cA) (wC cA a) (XC ad) A b_A_keepWord post) {σ : SS} {x1 : Int32} {H : Heap} {locs : List Loc} {ls : Array Slot} (h : f_A_keepWord post σ x1) (hw : CX D vcl (tyl cA) (wC cA a σ) (XC ad) A s H locs) (hl : lv_has ls 2 [(0, .ref (a 10)), (1, .int x1)]) : W p l e r_A_keepWord s m args below meth c H locs 0 0 Q (F0 m 0 ls []) := by
  have hx := fx.1
  have hb := fx.2.1
  unfold f_A_keepWord at h
  refine lv_aload_n (pc := 0) hx hb d_A_keepWord_0 rfl (lv_at hl 0 rfl) ?_
  refine gC_10_made (pc := 1) fx hw kw_223 d_A_keepWord_1 ?_
  refine lv_sipush (pc := 4) (v := 3000) hx hb d_A_keepWord_4 (by decide) ?_
  refine lv_icmp_ge (pc := 7) (tgt := 43) hx hb d_A_keepWord_7 (by decide) (fun c9 => ?_) (fun c9 => ?_)
  · replace h := h.1 c9
    exact HR d_A_keepWord_43 h hw
  · replace h := h.2 c9
    refine lv_aload_n (pc := 10) hx hb d_A_keepWord_10 rfl (lv_at hl 0 rfl) ?_
    refine gC_10_places (pc := 11) fx hw kw_221 d_A_keepWord_11 ?_
    refine lv_aload_n (pc := 14) hx hb d_A_keepWord_14 rfl (lv_at hl 0 rfl) ?_
    refine gC_10_made (pc := 15) fx hw kw_223 d_A_keepWord_15 ?_
    refine lv_aload_n (pc := 18) hx hb d_A_keepWord_18 rfl (lv_at hl 0 rfl) ?_
    refine gC_10_location (pc := 19) fx hw kw_228 d_A_keepWord_19 ?_
    refine asC_20 (pc := 22) fx hw h.1 d_A_keepWord_22 (fun σ_1 e9 H locs hw => ?_)
    replace h := nm_u h.2 e9
    clear e9
    refine lv_aload_n (pc := 23) hx hb d_A_keepWord_23 rfl (lv_at hl 0 rfl) ?_
    refine gC_10_words (pc := 24) fx hw kw_222 d_A_keepWord_24 ?_
    refine lv_aload_n (pc := 27) hx hb d_A_keepWord_27 rfl (lv_at hl 0 rfl) ?_
    refine gC_10_made (pc := 28) fx hw kw_223 d_A_keepWord_28 ?_
    refine lv_iload_n (pc := 31) hx hb d_A_keepWord_31 rfl (lv_at hl 1 rfl) ?_
    refine asC_21 (pc := 32) fx hw h.1 d_A_keepWord_32 (fun σ_2 e9 H locs hw => ?_)
    replace h := nm_u h.2 e9
    clear e9
    refine lv_aload_n (pc := 33) hx hb d_A_keepWord_33 rfl (lv_at hl 0 rfl) ?_
    refine lv_dup (pc := 34) hx hb d_A_keepWord_34 rfl ?_
    refine gC_10_made (pc := 35) fx hw kw_223 d_A_keepWord_35 ?_
    refine lv_iconst (pc := 38) (v := 1) hx hb d_A_keepWord_38 (by decide) ?_
    refine lv_iadd (pc := 39) hx hb d_A_keepWord_39 ?_
    refine pC_10_made (pc := 40) fx hw kw_223 d_A_keepWord_40 (fun σ_3 e9 H locs hw => ?_)
    replace h := nm_u h e9
    clear e9
    exact HR d_A_keepWord_43 h hw
end
theorem c_A_keepWord {l : Launch} {D : va_G} {cA : Nat → ClassId} {a : Nat → Nat} {ad : Nat → Nat → Nat} {σ : SS} {post : SS → Prop} {x1 : Int32} (h : f_A_keepWord post σ x1) : mV l y_A_keepWord b_A_keepWord 2 none 0 0 D vcl (tyl cA) (wC cA a) (XC ad) σ [.ref (a 10), .int x1] post := met_V (by decide) (Nat.le_of_ble_eq_true rfl) (fun p e s m args below meth c A Q fx HR H ls hw hl => e_A_keepWord  fx HR h hw hl)
abbrev r_S_named : Room := { frames := 5, cells := 0, slots := 0, locals := 119 }
def f_S_named_2 (post : Nat → SS → Prop) : Nat → SS → Int64 → Int32 → Prop
  | 0, _, _, _ => False
  | n + 1, σ, x0, x2 => br (35 ≤ x2) (post 34 σ) (vp_in x2 35 ∧ f_S_furtherBits (fun r_3 σ_2 => br (r_3 = (-1)) (nm (x2 + 1) fun x2_4 => f_S_named_2 post n σ_2 x0 x2_4) (vp_in x2 35 ∧ post (x2.toNatClampNeg) σ_2)) σ (x2.toNatClampNeg) x0)
def f_S_named (post : Nat → SS → Prop) (σ : SS) (x0 : Int64) : Prop := ∃ n9, f_S_named_2 post n9 σ x0 0
section
variable {p : Program} {l : Launch} {e : Env} {s : State} {m : MethodId} {args : Array Value} {below : List Frame} {meth : Method} {c : Code} {Q : State → Prop} {D : va_G} {cA : Nat → ClassId} {a : Nat → Nat} {ad : Nat → Nat → Nat} {A : Nat → Prop}
set_option maxHeartbeats 4000000 in
set_option maxRecDepth 100000 in
theorem c_S_named_2 (fx : CallFix p m c b_S_named 3 s args GW "NovaDesk$Statement") {post : Nat → SS → Prop} (HR : RetN p l e r_S_named s m args below meth c Q D vcl (tyl cA) (wC cA a) (XC ad) A b_S_named (fun i => .ref (ad 0 i)) post) : ∀ (n : Nat) {σ : SS} {x0 : Int64} {x2 : Int32} {H : Heap} {locs : List Loc} {ls : Array Slot}, f_S_named_2 post n σ x0 x2 → CX D vcl (tyl cA) (wC cA a σ) (XC ad) A s H locs → lv_has ls 3 [(0, .long x0), (2, .int x2)] → W p l e r_S_named s m args below meth c H locs 0 0 Q (F0 m 2 ls []) := by
  have hx := fx.1
  have hb := fx.2.1
  intro n
  induction n with
  | zero => intro σ x0 x2 H locs ls h; exact h.elim
  | succ n ih =>
    intro σ x0 x2 H locs ls h hw hl
    have K2 := @ih
    unfold f_S_named_2 at h
    refine lv_iload_n (pc := 2) hx hb d_S_named_2 rfl (lv_at hl 1 rfl) ?_
    refine gzS_ALL (pc := 3) fx hw kw_531 d_S_named_3 ?_
    refine anS (pc := 6) fx hw d_S_named_6 ?_
    refine lv_icmp_ge (pc := 7) (tgt := 35) hx hb d_S_named_7 (by decide) (fun c9 => ?_) (fun c9 => ?_)
    · replace h := h.1 c9
      refine gzS_WORD (pc := 35) fx hw kw_541 d_S_named_35 ?_
      exact HR (r := 34) d_S_named_38 h hw
    · replace h := h.2 c9
      refine gzS_ALL (pc := 10) fx hw kw_531 d_S_named_10 ?_
      refine lv_iload_n (pc := 13) hx hb d_S_named_13 rfl (lv_at hl 1 rfl) ?_
      have b9 := h.1
      refine aaS (pc := 14) fx hw b9 d_S_named_14 ?_
      replace h := h.2
      have b_1 := Nat.not_le.mp fun q => b9 (Or.inr q)
      refine lv_lload_n (pc := 15) hx hb d_S_named_15 rfl (lv_at hl 0 rfl) ?_
      refine rsI (pc := 16) hw (rnV (pc := 16) xtC fx hw (c_S_furtherBits h _) cw_S_155 (rcS hw b_1) rfl ⟨Nat.le_of_ble_eq_true rfl, Nat.le_of_ble_eq_true rfl⟩ hl.1 (Nat.le_of_ble_eq_true rfl) d_S_named_16 ⟨Nat.zero_le _, Nat.zero_le _⟩) (fun r_3 σ_2 H locs hw h => ?_)
      refine lv_iconst (pc := 19) (v := (-1)) hx hb d_S_named_19 (by decide) ?_
      refine lv_icmp_eq (pc := 20) (tgt := 29) hx hb d_S_named_20 (by decide) (fun c9 => ?_) (fun c9 => ?_)
      · replace h := h.1 c9
        obtain ⟨x2_4, e9⟩ : ∃ z : Int32, z = x2 + 1 := ⟨_, rfl⟩
        replace h := nm_u h e9
        refine lv_iinc (pc := 29) (v := x2_4) (lv' := [(2, .int x2_4), (0, .long x0)]) hx hb d_S_named_29 hl (k := 1) rfl (by rw [e9]; rfl) (by decide) rfl (fun ls hl => ?_)
        clear e9
        refine lv_goto (pc := 32) (tgt := 2) hx hb d_S_named_32 (by decide) ?_
        exact K2 h hw (lv_sub hl [1, 0] rfl)
      · replace h := h.2 c9
        refine gzS_ALL (pc := 23) fx hw kw_531 d_S_named_23 ?_
        refine lv_iload_n (pc := 26) hx hb d_S_named_26 rfl (lv_at hl 1 rfl) ?_
        have b9 := h.1
        refine aaS (pc := 27) fx hw b9 d_S_named_27 ?_
        replace h := h.2
        have b_5 := Nat.not_le.mp fun q => b9 (Or.inr q)
        exact HR (r := (x2.toNatClampNeg)) d_S_named_28 h hw
set_option maxHeartbeats 4000000 in
set_option maxRecDepth 100000 in
theorem e_S_named (fx : CallFix p m c b_S_named 3 s args GW "NovaDesk$Statement") {post : Nat → SS → Prop} (HR : RetN p l e r_S_named s m args below meth c Q D vcl (tyl cA) (wC cA a) (XC ad) A b_S_named (fun i => .ref (ad 0 i)) post) {σ : SS} {x0 : Int64} {H : Heap} {locs : List Loc} {ls : Array Slot} (h : f_S_named post σ x0) (hw : CX D vcl (tyl cA) (wC cA a σ) (XC ad) A s H locs) (hl : lv_has ls 3 [(0, .long x0)]) : W p l e r_S_named s m args below meth c H locs 0 0 Q (F0 m 0 ls []) := by
  have hx := fx.1
  have hb := fx.2.1
  unfold f_S_named at h
  refine lv_iconst (pc := 0) (v := 0) hx hb d_S_named_0 (by decide) ?_
  refine lv_istore_n (pc := 1) (lv' := [(2, .int 0), (0, .long x0)]) hx hb d_S_named_1 rfl hl (by decide) rfl (fun ls hl => ?_)
  obtain ⟨n9, h⟩ := h
  exact c_S_named_2  fx HR n9 h hw (lv_sub hl [1, 0] rfl)
end
theorem c_S_named {l : Launch} {D : va_G} {cA : Nat → ClassId} {a : Nat → Nat} {ad : Nat → Nat → Nat} {σ : SS} {post : Nat → SS → Prop} {x0 : Int64} (h : f_S_named post σ x0) : mN (fun i => .ref (ad 0 i)) l y_S_named b_S_named 3 (some (.object "NovaDesk$Statement")) 5 119 D vcl (tyl cA) (wC cA a) (XC ad) σ [.long x0] post := met_N (fun r => Or.inr ⟨_, rfl⟩) (by decide) (Nat.le_of_ble_eq_true rfl) (fun p e s m args below meth c A Q fx HR H ls hw hl => e_S_named  fx HR h hw hl)
abbrev r_A_define : Room := { frames := 6, cells := 0, slots := 0, locals := 141 }
def f_A_define_43 (post : SS → Prop) (σ : SS) (x1 : Int64) (s0 : Int32) : Prop := br (s0 = 0) (br (σ.1 25 = 0) (f_L_add_14 (fun r_2 σ_1 => br (r_2 = 0) (f_A_complain (fun σ_3 => post σ_3) σ_1 7) (post σ_1)) σ x1 (σ.1 30)) (f_L_add_17 (fun r_6 σ_5 => br (r_6 = 0) (f_A_complain (fun σ_7 => post σ_7) σ_5 7) (post σ_5)) σ x1 (σ.1 30))) (f_A_complain (fun σ_9 => post σ_9) σ 4)
def f_A_define (post : SS → Prop) (σ : SS) (x1 : Int64) : Prop := br ((lg_cmp x1 3314649325744685056) = 0) (f_A_define_43 post σ x1 1) (f_G_numberOf (fun r_12 σ_11 => br (r_12 = (-1)) (f_S_named (fun r_14 σ_13 => (r_14 < 35) ∧ br (r_14 = 34) (br (σ_13.1 25 = 0) (f_L_find_14 (fun r_17 σ_16 => br (r_17 = (-1)) (f_A_define_43 post σ_16 x1 0) (f_A_define_43 post σ_16 x1 1)) σ_13 x1) (f_L_find_17 (fun r_19 σ_18 => br (r_19 = (-1)) (f_A_define_43 post σ_18 x1 0) (f_A_define_43 post σ_18 x1 1)) σ_13 x1)) (f_A_define_43 post σ_13 x1 1)) σ_11 x1) (f_A_define_43 post σ_11 x1 1)) σ x1)
section
variable {p : Program} {l : Launch} {e : Env} {s : State} {m : MethodId} {args : Array Value} {below : List Frame} {meth : Method} {c : Code} {Q : State → Prop} {D : va_G} {cA : Nat → ClassId} {a : Nat → Nat} {ad : Nat → Nat → Nat} {A : Nat → Prop}
set_option maxHeartbeats 4000000 in
set_option maxRecDepth 100000 in
theorem c_A_define_43 (fx : CallFix p m c b_A_define 4 s args GW RNA) {post : SS → Prop} (HR : RetV p l e r_A_define s m args below meth c Q D vcl (tyl cA) (wC cA a) (XC ad) A b_A_define post) {σ : SS} {x1 : Int64} {s0 : Int32} {H : Heap} {locs : List Loc} {ls : Array Slot} (h : f_A_define_43 post σ x1 s0) (hw : CX D vcl (tyl cA) (wC cA a σ) (XC ad) A s H locs) (hl : lv_has ls 4 [(0, .ref (a 10)), (1, .long x1)]) : W p l e r_A_define s m args below meth c H locs 0 0 Q (F0 m 43 ls [.int s0]) := by
  have hx := fx.1
  have hb := fx.2.1
  unfold f_A_define_43 at h
  refine lv_istore_n (pc := 43) (lv' := [(3, .int s0), (0, .ref (a 10)), (1, .long x1)]) hx hb d_A_define_43 rfl hl (by decide) rfl (fun ls hl => ?_)
  refine lv_iload_n (pc := 44) hx hb d_A_define_44 rfl (lv_at hl 0 rfl) ?_
  refine lv_if_eq (pc := 45) (tgt := 56) hx hb d_A_define_45 (by decide) (fun c9 => ?_) (fun c9 => ?_)
  · replace h := h.1 c9
    refine lv_aload_n (pc := 56) hx hb d_A_define_56 rfl (lv_at hl 1 rfl) ?_
    refine gC_10_fresh_s (pc := 57) fx hw kw_220 d_A_define_57 (fun c9 => ?_) (fun c9 => ?_)
    · replace h := h.1 c9
      refine lv_lload_n (pc := 60) hx hb d_A_define_60 rfl (lv_at hl 2 rfl) ?_
      refine lv_aload_n (pc := 61) hx hb d_A_define_61 rfl (lv_at hl 1 rfl) ?_
      refine gC_10_location (pc := 62) fx hw kw_228 d_A_define_62 ?_
      refine rsI (pc := 65) hw (rnV (pc := 65) xtC fx hw (c_L_add_14 h _) cw_A_149 (rcC_14 hw) rfl ⟨Nat.le_of_ble_eq_true rfl, Nat.le_of_ble_eq_true rfl⟩ hl.1 (Nat.le_of_ble_eq_true rfl) d_A_define_65 ⟨Nat.zero_le _, Nat.zero_le _⟩) (fun r_2 σ_1 H locs hw h => ?_)
      have zr_2 := h.1
      replace h := h.2
      refine lv_if_ne (pc := 68) (tgt := 77) hx hb d_A_define_68 (by decide) (fun c9 => ?_) (fun c9 => ?_)
      · replace h := h.2 c9
        exact HR d_A_define_77 h hw
      · replace h := h.1 c9
        refine lv_aload_n (pc := 71) hx hb d_A_define_71 rfl (lv_at hl 1 rfl) ?_
        refine lv_bipush (pc := 72) (v := 7) hx hb d_A_define_72 (by decide) ?_
        refine rsV (pc := 74) hw (rnV (pc := 74) xtC fx hw (c_A_complain h _) cw_A_90 (rcC_10 hw) rfl ⟨Nat.le_of_ble_eq_true rfl, Nat.le_of_ble_eq_true rfl⟩ hl.1 (Nat.le_of_ble_eq_true rfl) d_A_define_74 ⟨Nat.zero_le _, Nat.zero_le _⟩) (fun σ_3 H locs hw h => ?_)
        exact HR d_A_define_77 h hw
    · replace h := h.2 c9
      refine lv_lload_n (pc := 60) hx hb d_A_define_60 rfl (lv_at hl 2 rfl) ?_
      refine lv_aload_n (pc := 61) hx hb d_A_define_61 rfl (lv_at hl 1 rfl) ?_
      refine gC_10_location (pc := 62) fx hw kw_228 d_A_define_62 ?_
      refine rsI (pc := 65) hw (rnV (pc := 65) xtC fx hw (c_L_add_17 h _) cw_A_149 (rcC_17 hw) rfl ⟨Nat.le_of_ble_eq_true rfl, Nat.le_of_ble_eq_true rfl⟩ hl.1 (Nat.le_of_ble_eq_true rfl) d_A_define_65 ⟨Nat.zero_le _, Nat.zero_le _⟩) (fun r_6 σ_5 H locs hw h => ?_)
      have zr_6 := h.1
      replace h := h.2
      refine lv_if_ne (pc := 68) (tgt := 77) hx hb d_A_define_68 (by decide) (fun c9 => ?_) (fun c9 => ?_)
      · replace h := h.2 c9
        exact HR d_A_define_77 h hw
      · replace h := h.1 c9
        refine lv_aload_n (pc := 71) hx hb d_A_define_71 rfl (lv_at hl 1 rfl) ?_
        refine lv_bipush (pc := 72) (v := 7) hx hb d_A_define_72 (by decide) ?_
        refine rsV (pc := 74) hw (rnV (pc := 74) xtC fx hw (c_A_complain h _) cw_A_90 (rcC_10 hw) rfl ⟨Nat.le_of_ble_eq_true rfl, Nat.le_of_ble_eq_true rfl⟩ hl.1 (Nat.le_of_ble_eq_true rfl) d_A_define_74 ⟨Nat.zero_le _, Nat.zero_le _⟩) (fun σ_7 H locs hw h => ?_)
        exact HR d_A_define_77 h hw
  · replace h := h.2 c9
    refine lv_aload_n (pc := 48) hx hb d_A_define_48 rfl (lv_at hl 1 rfl) ?_
    refine lv_iconst (pc := 49) (v := 4) hx hb d_A_define_49 (by decide) ?_
    refine rsV (pc := 50) hw (rnV (pc := 50) xtC fx hw (c_A_complain h _) cw_A_90 (rcC_10 hw) rfl ⟨Nat.le_of_ble_eq_true rfl, Nat.le_of_ble_eq_true rfl⟩ hl.1 (Nat.le_of_ble_eq_true rfl) d_A_define_50 ⟨Nat.zero_le _, Nat.zero_le _⟩) (fun σ_9 H locs hw h => ?_)
    refine lv_goto (pc := 53) (tgt := 77) hx hb d_A_define_53 (by decide) ?_
    exact HR d_A_define_77 h hw
set_option maxHeartbeats 4000000 in
set_option maxRecDepth 100000 in
theorem e_A_define (fx : CallFix p m c b_A_define 4 s args GW RNA) {post : SS → Prop} (HR : RetV p l e r_A_define s m args below meth c Q D vcl (tyl cA) (wC cA a) (XC ad) A b_A_define post) {σ : SS} {x1 : Int64} {H : Heap} {locs : List Loc} {ls : Array Slot} (h : f_A_define post σ x1) (hw : CX D vcl (tyl cA) (wC cA a σ) (XC ad) A s H locs) (hl : lv_has ls 4 [(0, .ref (a 10)), (1, .long x1)]) : W p l e r_A_define s m args below meth c H locs 0 0 Q (F0 m 0 ls []) := by
  have hx := fx.1
  have hb := fx.2.1
  unfold f_A_define at h
  refine lv_lload_n (pc := 0) hx hb d_A_define_0 rfl (lv_at hl 1 rfl) ?_
  refine lv_ldc2 (pc := 1) (v := 3314649325744685056) hx hb fx.2.2.2.1 (fx.2.2.2.2 _ kw_522) d_A_define_1 ?_
  refine W.lcmp (pc := 4) hx hb d_A_define_4 ?_
  refine lv_if_eq (pc := 5) (tgt := 38) hx hb d_A_define_5 (by decide) (fun c9 => ?_) (fun c9 => ?_)
  · replace h := h.1 c9
    refine lv_iconst (pc := 38) (v := 1) hx hb d_A_define_38 (by decide) ?_
    refine lv_goto (pc := 39) (tgt := 43) hx hb d_A_define_39 (by decide) ?_
    exact c_A_define_43  fx HR h hw (lv_sub hl [0, 1] rfl)
  · replace h := h.2 c9
    refine lv_lload_n (pc := 8) hx hb d_A_define_8 rfl (lv_at hl 1 rfl) ?_
    refine rsI (pc := 9) hw (rnS (pc := 9) xtC fx hw (c_G_numberOf h _) cw_A_140 rfl ⟨Nat.le_of_ble_eq_true rfl, Nat.le_of_ble_eq_true rfl⟩ hl.1 (Nat.le_of_ble_eq_true rfl) d_A_define_9 ⟨Nat.zero_le _, Nat.zero_le _⟩) (fun r_12 σ_11 H locs hw h => ?_)
    refine lv_iconst (pc := 12) (v := (-1)) hx hb d_A_define_12 (by decide) ?_
    refine lv_icmp_ne (pc := 13) (tgt := 38) hx hb d_A_define_13 (by decide) (fun c9 => ?_) (fun c9 => ?_)
    · replace h := h.2 c9
      refine lv_iconst (pc := 38) (v := 1) hx hb d_A_define_38 (by decide) ?_
      refine lv_goto (pc := 39) (tgt := 43) hx hb d_A_define_39 (by decide) ?_
      exact c_A_define_43  fx HR h hw (lv_sub hl [0, 1] rfl)
    · replace h := h.1 c9
      refine lv_lload_n (pc := 16) hx hb d_A_define_16 rfl (lv_at hl 1 rfl) ?_
      refine rsN (pc := 17) hw (rnS (pc := 17) xtC fx hw (c_S_named h _) cw_A_98 rfl ⟨Nat.le_of_ble_eq_true rfl, Nat.le_of_ble_eq_true rfl⟩ hl.1 (Nat.le_of_ble_eq_true rfl) d_A_define_17 ⟨Nat.zero_le _, Nat.zero_le _⟩) (fun r_14 σ_13 H locs hw h => ?_)
      refine gzS_WORD (pc := 20) fx hw kw_543 d_A_define_20 ?_
      have b_15 := h.1
      replace h := h.2
      refine acS_ne (pc := 23) (tgt := 38) fx hw b_15 d_A_define_23 (by decide) (fun c9 => ?_) (fun c9 => ?_)
      · replace h := h.2 c9
        refine lv_iconst (pc := 38) (v := 1) hx hb d_A_define_38 (by decide) ?_
        refine lv_goto (pc := 39) (tgt := 43) hx hb d_A_define_39 (by decide) ?_
        exact c_A_define_43  fx HR h hw (lv_sub hl [0, 1] rfl)
      · replace h := h.1 c9
        refine lv_aload_n (pc := 26) hx hb d_A_define_26 rfl (lv_at hl 0 rfl) ?_
        refine gC_10_fresh_s (pc := 27) fx hw kw_220 d_A_define_27 (fun c9 => ?_) (fun c9 => ?_)
        · replace h := h.1 c9
          refine lv_lload_n (pc := 30) hx hb d_A_define_30 rfl (lv_at hl 1 rfl) ?_
          refine rsI (pc := 31) hw (rnV (pc := 31) xtC fx hw (c_L_find_14 h _) cw_A_146 (rcC_14 hw) rfl ⟨Nat.le_of_ble_eq_true rfl, Nat.le_of_ble_eq_true rfl⟩ hl.1 (Nat.le_of_ble_eq_true rfl) d_A_define_31 ⟨Nat.zero_le _, Nat.zero_le _⟩) (fun r_17 σ_16 H locs hw h => ?_)
          refine lv_iconst (pc := 34) (v := (-1)) hx hb d_A_define_34 (by decide) ?_
          refine lv_icmp_eq (pc := 35) (tgt := 42) hx hb d_A_define_35 (by decide) (fun c9 => ?_) (fun c9 => ?_)
          · replace h := h.1 c9
            refine lv_iconst (pc := 42) (v := 0) hx hb d_A_define_42 (by decide) ?_
            exact c_A_define_43  fx HR h hw (lv_sub hl [0, 1] rfl)
          · replace h := h.2 c9
            refine lv_iconst (pc := 38) (v := 1) hx hb d_A_define_38 (by decide) ?_
            refine lv_goto (pc := 39) (tgt := 43) hx hb d_A_define_39 (by decide) ?_
            exact c_A_define_43  fx HR h hw (lv_sub hl [0, 1] rfl)
        · replace h := h.2 c9
          refine lv_lload_n (pc := 30) hx hb d_A_define_30 rfl (lv_at hl 1 rfl) ?_
          refine rsI (pc := 31) hw (rnV (pc := 31) xtC fx hw (c_L_find_17 h _) cw_A_146 (rcC_17 hw) rfl ⟨Nat.le_of_ble_eq_true rfl, Nat.le_of_ble_eq_true rfl⟩ hl.1 (Nat.le_of_ble_eq_true rfl) d_A_define_31 ⟨Nat.zero_le _, Nat.zero_le _⟩) (fun r_19 σ_18 H locs hw h => ?_)
          refine lv_iconst (pc := 34) (v := (-1)) hx hb d_A_define_34 (by decide) ?_
          refine lv_icmp_eq (pc := 35) (tgt := 42) hx hb d_A_define_35 (by decide) (fun c9 => ?_) (fun c9 => ?_)
          · replace h := h.1 c9
            refine lv_iconst (pc := 42) (v := 0) hx hb d_A_define_42 (by decide) ?_
            exact c_A_define_43  fx HR h hw (lv_sub hl [0, 1] rfl)
          · replace h := h.2 c9
            refine lv_iconst (pc := 38) (v := 1) hx hb d_A_define_38 (by decide) ?_
            refine lv_goto (pc := 39) (tgt := 43) hx hb d_A_define_39 (by decide) ?_
            exact c_A_define_43  fx HR h hw (lv_sub hl [0, 1] rfl)
end
theorem c_A_define {l : Launch} {D : va_G} {cA : Nat → ClassId} {a : Nat → Nat} {ad : Nat → Nat → Nat} {σ : SS} {post : SS → Prop} {x1 : Int64} (h : f_A_define post σ x1) : mV l y_A_define b_A_define 4 none 6 141 D vcl (tyl cA) (wC cA a) (XC ad) σ [.ref (a 10), .long x1] post := met_V (by decide) (Nat.le_of_ble_eq_true rfl) (fun p e s m args below meth c A Q fx HR H ls hw hl => e_A_define  fx HR h hw hl)
abbrev r_A_readLabels : Room := { frames := 7, cells := 0, slots := 0, locals := 164 }
def f_A_readLabels_72 (post : SS → Prop) (k2 : SS → Int32 → Int32 → Prop) (σ : SS) (x1 : Int32) (x2 : Int32) : Prop := nm (x2 + 1) fun x2_1 => k2 σ x1 x2_1
def f_A_readLabels_2 (post : SS → Prop) : Nat → SS → Int32 → Int32 → Prop
  | 0, _, _, _ => False
  | n + 1, σ, x1, x2 => br ((σ.1 35) ≤ x2) (post σ) (f_A_look (fun r_3 σ_2 => br (r_3 = 2) (f_I_nameAt (fun r_5 σ_4 => nm (sI σ_4 29 ((σ_4.1 29) + 1)) fun σ_6 => f_A_takes (fun r_8 σ_7 => br (r_8 = 0) (nm (sI σ_7 29 ((σ_7.1 29) - 1)) fun σ_11 => post σ_11) (br (x1 = 0) (f_A_readLabels_72 post (f_A_readLabels_2 post n) σ_7 x1 x2) (f_A_define (fun σ_9 => f_A_readLabels_72 post (f_A_readLabels_2 post n) σ_9 x1 x2) σ_7 r_5))) σ_6 58) σ_2 (σ_2.1 29)) (post σ_2)) σ)
def f_A_readLabels (post : SS → Prop) (σ : SS) (x1 : Int32) : Prop := ∃ n9, f_A_readLabels_2 post n9 σ x1 0
section
variable {p : Program} {l : Launch} {e : Env} {s : State} {m : MethodId} {args : Array Value} {below : List Frame} {meth : Method} {c : Code} {Q : State → Prop} {D : va_G} {cA : Nat → ClassId} {a : Nat → Nat} {ad : Nat → Nat → Nat} {A : Nat → Prop}
set_option maxHeartbeats 4000000 in
set_option maxRecDepth 100000 in
theorem c_A_readLabels_72 (fx : CallFix p m c b_A_readLabels 5 s args GW RNA) {post : SS → Prop} (HR : RetV p l e r_A_readLabels s m args below meth c Q D vcl (tyl cA) (wC cA a) (XC ad) A b_A_readLabels post) {k2 : SS → Int32 → Int32 → Prop} (K2 : ∀ {σ : SS} {x1 : Int32} {x2 : Int32} {H : Heap} {locs : List Loc} {ls : Array Slot}, k2 σ x1 x2 → CX D vcl (tyl cA) (wC cA a σ) (XC ad) A s H locs → lv_has ls 5 [(0, .ref (a 10)), (1, .int x1), (2, .int x2)] → W p l e r_A_readLabels s m args below meth c H locs 0 0 Q (F0 m 2 ls [])) {σ : SS} {x1 : Int32} {x2 : Int32} {H : Heap} {locs : List Loc} {ls : Array Slot} (h : f_A_readLabels_72 post k2 σ x1 x2) (hw : CX D vcl (tyl cA) (wC cA a σ) (XC ad) A s H locs) (hl : lv_has ls 5 [(0, .ref (a 10)), (1, .int x1), (2, .int x2)]) : W p l e r_A_readLabels s m args below meth c H locs 0 0 Q (F0 m 72 ls []) := by
  have hx := fx.1
  have hb := fx.2.1
  unfold f_A_readLabels_72 at h
  obtain ⟨x2_1, e9⟩ : ∃ z : Int32, z = x2 + 1 := ⟨_, rfl⟩
  replace h := nm_u h e9
  refine lv_iinc (pc := 72) (v := x2_1) (lv' := [(2, .int x2_1), (0, .ref (a 10)), (1, .int x1)]) hx hb d_A_readLabels_72 hl (k := 2) rfl (by rw [e9]; rfl) (by decide) rfl (fun ls hl => ?_)
  clear e9
  refine lv_goto (pc := 75) (tgt := 2) hx hb d_A_readLabels_75 (by decide) ?_
  exact K2 h hw (lv_sub hl [1, 2, 0] rfl)
set_option maxHeartbeats 4000000 in
set_option maxRecDepth 100000 in
theorem c_A_readLabels_2 (fx : CallFix p m c b_A_readLabels 5 s args GW RNA) {post : SS → Prop} (HR : RetV p l e r_A_readLabels s m args below meth c Q D vcl (tyl cA) (wC cA a) (XC ad) A b_A_readLabels post) : ∀ (n : Nat) {σ : SS} {x1 : Int32} {x2 : Int32} {H : Heap} {locs : List Loc} {ls : Array Slot}, f_A_readLabels_2 post n σ x1 x2 → CX D vcl (tyl cA) (wC cA a σ) (XC ad) A s H locs → lv_has ls 5 [(0, .ref (a 10)), (1, .int x1), (2, .int x2)] → W p l e r_A_readLabels s m args below meth c H locs 0 0 Q (F0 m 2 ls []) := by
  have hx := fx.1
  have hb := fx.2.1
  intro n
  induction n with
  | zero => intro σ x1 x2 H locs ls h; exact h.elim
  | succ n ih =>
    intro σ x1 x2 H locs ls h hw hl
    have K2 := @ih
    unfold f_A_readLabels_2 at h
    refine lv_iload_n (pc := 2) hx hb d_A_readLabels_2 rfl (lv_at hl 2 rfl) ?_
    refine lv_aload_n (pc := 3) hx hb d_A_readLabels_3 rfl (lv_at hl 0 rfl) ?_
    refine gC_10_items (pc := 4) fx hw kw_216 d_A_readLabels_4 ?_
    refine gC_11_count (pc := 7) fx hw kw_186 d_A_readLabels_7 ?_
    refine lv_icmp_ge (pc := 10) (tgt := 78) hx hb d_A_readLabels_10 (by decide) (fun c9 => ?_) (fun c9 => ?_)
    · replace h := h.1 c9
      exact HR d_A_readLabels_78 h hw
    · replace h := h.2 c9
      refine lv_aload_n (pc := 13) hx hb d_A_readLabels_13 rfl (lv_at hl 0 rfl) ?_
      refine rsI (pc := 14) hw (rnV (pc := 14) xtC fx hw (c_A_look h _) cw_A_86 (rcC_10 hw) rfl ⟨Nat.le_of_ble_eq_true rfl, Nat.le_of_ble_eq_true rfl⟩ hl.1 (Nat.le_of_ble_eq_true rfl) d_A_readLabels_14 ⟨Nat.zero_le _, Nat.zero_le _⟩) (fun r_3 σ_2 H locs hw h => ?_)
      refine lv_iconst (pc := 17) (v := 2) hx hb d_A_readLabels_17 (by decide) ?_
      refine lv_icmp_ne (pc := 18) (tgt := 78) hx hb d_A_readLabels_18 (by decide) (fun c9 => ?_) (fun c9 => ?_)
      · replace h := h.2 c9
        exact HR d_A_readLabels_78 h hw
      · replace h := h.1 c9
        refine lv_aload_n (pc := 21) hx hb d_A_readLabels_21 rfl (lv_at hl 0 rfl) ?_
        refine gC_10_items (pc := 22) fx hw kw_216 d_A_readLabels_22 ?_
        refine lv_aload_n (pc := 25) hx hb d_A_readLabels_25 rfl (lv_at hl 0 rfl) ?_
        refine gC_10_at (pc := 26) fx hw kw_227 d_A_readLabels_26 ?_
        refine rsJ (pc := 29) hw (rnV (pc := 29) xtC fx hw (c_I_nameAt h _) cw_A_94 (rcC_11 hw) rfl ⟨Nat.le_of_ble_eq_true rfl, Nat.le_of_ble_eq_true rfl⟩ hl.1 (Nat.le_of_ble_eq_true rfl) d_A_readLabels_29 ⟨Nat.zero_le _, Nat.zero_le _⟩) (fun r_5 σ_4 H locs hw h => ?_)
        refine lv_lstore_n (pc := 32) (lv' := [(3, .long r_5), (0, .ref (a 10)), (1, .int x1), (2, .int x2)]) hx hb d_A_readLabels_32 rfl hl (by decide) rfl (fun ls hl => ?_)
        refine lv_aload_n (pc := 33) hx hb d_A_readLabels_33 rfl (lv_at hl 1 rfl) ?_
        refine lv_dup (pc := 34) hx hb d_A_readLabels_34 rfl ?_
        refine gC_10_at (pc := 35) fx hw kw_227 d_A_readLabels_35 ?_
        refine lv_iconst (pc := 38) (v := 1) hx hb d_A_readLabels_38 (by decide) ?_
        refine lv_iadd (pc := 39) hx hb d_A_readLabels_39 ?_
        refine pC_10_at (pc := 40) fx hw kw_227 d_A_readLabels_40 (fun σ_6 e9 H locs hw => ?_)
        replace h := nm_u h e9
        clear e9
        refine lv_aload_n (pc := 43) hx hb d_A_readLabels_43 rfl (lv_at hl 1 rfl) ?_
        refine lv_bipush (pc := 44) (v := 58) hx hb d_A_readLabels_44 (by decide) ?_
        refine rsI (pc := 46) hw (rnV (pc := 46) xtC fx hw (c_A_takes h _) cw_A_130 (rcC_10 hw) rfl ⟨Nat.le_of_ble_eq_true rfl, Nat.le_of_ble_eq_true rfl⟩ hl.1 (Nat.le_of_ble_eq_true rfl) d_A_readLabels_46 ⟨Nat.zero_le _, Nat.zero_le _⟩) (fun r_8 σ_7 H locs hw h => ?_)
        have zr_8 := h.1
        replace h := h.2
        refine lv_if_ne (pc := 49) (tgt := 63) hx hb d_A_readLabels_49 (by decide) (fun c9 => ?_) (fun c9 => ?_)
        · replace h := h.2 c9
          refine lv_iload_n (pc := 63) hx hb d_A_readLabels_63 rfl (lv_at hl 2 rfl) ?_
          refine lv_if_eq (pc := 64) (tgt := 72) hx hb d_A_readLabels_64 (by decide) (fun c9 => ?_) (fun c9 => ?_)
          · replace h := h.1 c9
            exact c_A_readLabels_72  fx HR K2 h hw (lv_sub hl [1, 2, 3] rfl)
          · replace h := h.2 c9
            refine lv_aload_n (pc := 67) hx hb d_A_readLabels_67 rfl (lv_at hl 1 rfl) ?_
            refine lv_lload_n (pc := 68) hx hb d_A_readLabels_68 rfl (lv_at hl 0 rfl) ?_
            refine rsV (pc := 69) hw (rnV (pc := 69) xtC fx hw (c_A_define h _) cw_A_134 (rcC_10 hw) rfl ⟨Nat.le_of_ble_eq_true rfl, Nat.le_of_ble_eq_true rfl⟩ hl.1 (Nat.le_of_ble_eq_true rfl) d_A_readLabels_69 ⟨Nat.zero_le _, Nat.zero_le _⟩) (fun σ_9 H locs hw h => ?_)
            exact c_A_readLabels_72  fx HR K2 h hw (lv_sub hl [1, 2, 3] rfl)
        · replace h := h.1 c9
          refine lv_aload_n (pc := 52) hx hb d_A_readLabels_52 rfl (lv_at hl 1 rfl) ?_
          refine lv_dup (pc := 53) hx hb d_A_readLabels_53 rfl ?_
          refine gC_10_at (pc := 54) fx hw kw_227 d_A_readLabels_54 ?_
          refine lv_iconst (pc := 57) (v := 1) hx hb d_A_readLabels_57 (by decide) ?_
          refine lv_isub (pc := 58) hx hb d_A_readLabels_58 ?_
          refine pC_10_at (pc := 59) fx hw kw_227 d_A_readLabels_59 (fun σ_11 e9 H locs hw => ?_)
          replace h := nm_u h e9
          clear e9
          exact HR d_A_readLabels_62 h hw
set_option maxHeartbeats 4000000 in
set_option maxRecDepth 100000 in
theorem e_A_readLabels (fx : CallFix p m c b_A_readLabels 5 s args GW RNA) {post : SS → Prop} (HR : RetV p l e r_A_readLabels s m args below meth c Q D vcl (tyl cA) (wC cA a) (XC ad) A b_A_readLabels post) {σ : SS} {x1 : Int32} {H : Heap} {locs : List Loc} {ls : Array Slot} (h : f_A_readLabels post σ x1) (hw : CX D vcl (tyl cA) (wC cA a σ) (XC ad) A s H locs) (hl : lv_has ls 5 [(0, .ref (a 10)), (1, .int x1)]) : W p l e r_A_readLabels s m args below meth c H locs 0 0 Q (F0 m 0 ls []) := by
  have hx := fx.1
  have hb := fx.2.1
  unfold f_A_readLabels at h
  refine lv_iconst (pc := 0) (v := 0) hx hb d_A_readLabels_0 (by decide) ?_
  refine lv_istore_n (pc := 1) (lv' := [(2, .int 0), (0, .ref (a 10)), (1, .int x1)]) hx hb d_A_readLabels_1 rfl hl (by decide) rfl (fun ls hl => ?_)
  obtain ⟨n9, h⟩ := h
  exact c_A_readLabels_2  fx HR n9 h hw (lv_sub hl [1, 2, 0] rfl)
end
theorem c_A_readLabels {l : Launch} {D : va_G} {cA : Nat → ClassId} {a : Nat → Nat} {ad : Nat → Nat → Nat} {σ : SS} {post : SS → Prop} {x1 : Int32} (h : f_A_readLabels post σ x1) : mV l y_A_readLabels b_A_readLabels 5 none 7 164 D vcl (tyl cA) (wC cA a) (XC ad) σ [.ref (a 10), .int x1] post := met_V (by decide) (Nat.le_of_ble_eq_true rfl) (fun p e s m args below meth c A Q fx HR H ls hw hl => e_A_readLabels  fx HR h hw hl)
abbrev r_A_readLine : Room := { frames := 8, cells := 0, slots := 0, locals := 188 }
def f_A_readLine_86 (post : SS → Prop) (σ : SS) (x3 : Nat) : Prop := f_A_readStatement (fun r_2 σ_1 => (x3 < 35) ∧ f_A_moveLocation (fun σ_4 => post σ_4) σ_1 (eS_form x3)) σ x3
def f_A_readLine_132 (post : SS → Prop) (σ : SS) : Prop := f_A_takePlace (fun σ_6 => post σ_6) σ
def f_A_readLine_70 (post : SS → Prop) (σ : SS) (x1 : Int32) (s0 : Nat) : Prop := (s0 < 35) ∧ br ((eS_form s0) = 0) (f_A_readLine_86 post σ s0) (br ((eS_form s0) = 1) (f_A_readLine_86 post σ s0) (br (x1 = 0) (f_A_readStatement (fun r_10 σ_9 => f_A_operandBits (fun r_12 σ_11 => f_A_keepWord (fun σ_13 => f_A_readLine_132 post σ_13) σ_11 (((eS_bits s0) ||| r_10) ||| r_12)) σ_9 (eS_form s0)) σ s0) (f_A_readLine_132 post σ)))
def f_A_readLine_45 (post : SS → Prop) (σ : SS) (x1 : Int32) (x2 : Int32) : Prop := br (x2 = 2) (f_I_nameAt (fun r_16 σ_15 => f_S_named (fun r_18 σ_17 => f_A_readLine_70 post σ_17 x1 r_18) σ_15 r_16) σ (σ.1 29)) (f_A_readLine_70 post σ x1 34)
def f_A_readLine (post : SS → Prop) (σ : SS) (x1 : Int32) : Prop := f_A_readLabels (fun σ_19 => f_A_look (fun r_22 σ_21 => br (r_22 = 10) (post σ_21) (br (r_22 = 2) (f_A_readLine_45 post σ_21 x1 r_22) (br (r_22 = 3) (f_A_readLine_45 post σ_21 x1 r_22) (br (r_22 = 43) (f_A_readLine_45 post σ_21 x1 r_22) (br (r_22 = 45) (f_A_readLine_45 post σ_21 x1 r_22) (f_A_complain (fun σ_23 => post σ_23) σ_21 2)))))) σ_19) σ x1
section
variable {p : Program} {l : Launch} {e : Env} {s : State} {m : MethodId} {args : Array Value} {below : List Frame} {meth : Method} {c : Code} {Q : State → Prop} {D : va_G} {cA : Nat → ClassId} {a : Nat → Nat} {ad : Nat → Nat → Nat} {A : Nat → Prop}
set_option maxHeartbeats 4000000 in
set_option maxRecDepth 100000 in
theorem c_A_readLine_86 (fx : CallFix p m c b_A_readLine 5 s args GW RNA) {post : SS → Prop} (HR : RetV p l e r_A_readLine s m args below meth c Q D vcl (tyl cA) (wC cA a) (XC ad) A b_A_readLine post) {σ : SS} {x3 : Nat} {H : Heap} {locs : List Loc} {ls : Array Slot} (h : f_A_readLine_86 post σ x3) (hw : CX D vcl (tyl cA) (wC cA a σ) (XC ad) A s H locs) (hl : lv_has ls 5 [(0, .ref (a 10)), (3, .ref (ad 0 x3))]) : W p l e r_A_readLine s m args below meth c H locs 0 0 Q (F0 m 86 ls []) := by
  have hx := fx.1
  have hb := fx.2.1
  unfold f_A_readLine_86 at h
  refine lv_aload_n (pc := 86) hx hb d_A_readLine_86 rfl (lv_at hl 0 rfl) ?_
  refine lv_aload_n (pc := 87) hx hb d_A_readLine_87 rfl (lv_at hl 1 rfl) ?_
  refine rsI (pc := 88) hw (rnV (pc := 88) xtC fx hw (c_A_readStatement h _) cw_A_111 (rcC_10 hw) rfl ⟨Nat.le_of_ble_eq_true rfl, Nat.le_of_ble_eq_true rfl⟩ hl.1 (Nat.le_of_ble_eq_true rfl) d_A_readLine_88 ⟨Nat.zero_le _, Nat.zero_le _⟩) (fun r_2 σ_1 H locs hw h => ?_)
  refine lv_pop (pc := 91) hx hb d_A_readLine_91 rfl ?_
  refine lv_aload_n (pc := 92) hx hb d_A_readLine_92 rfl (lv_at hl 0 rfl) ?_
  refine lv_aload_n (pc := 93) hx hb d_A_readLine_93 rfl (lv_at hl 1 rfl) ?_
  have b_3 := h.1
  replace h := h.2
  refine geS_form (pc := 94) fx hw b_3 kw_1556 d_A_readLine_94 ?_
  refine rsV (pc := 97) hw (rnV (pc := 97) xtC fx hw (c_A_moveLocation h _) cw_A_115 (rcC_10 hw) rfl ⟨Nat.le_of_ble_eq_true rfl, Nat.le_of_ble_eq_true rfl⟩ hl.1 (Nat.le_of_ble_eq_true rfl) d_A_readLine_97 ⟨Nat.zero_le _, Nat.zero_le _⟩) (fun σ_4 H locs hw h => ?_)
  exact HR d_A_readLine_100 h hw
set_option maxHeartbeats 4000000 in
set_option maxRecDepth 100000 in
theorem c_A_readLine_132 (fx : CallFix p m c b_A_readLine 5 s args GW RNA) {post : SS → Prop} (HR : RetV p l e r_A_readLine s m args below meth c Q D vcl (tyl cA) (wC cA a) (XC ad) A b_A_readLine post) {σ : SS} {H : Heap} {locs : List Loc} {ls : Array Slot} (h : f_A_readLine_132 post σ) (hw : CX D vcl (tyl cA) (wC cA a σ) (XC ad) A s H locs) (hl : lv_has ls 5 [(0, .ref (a 10))]) : W p l e r_A_readLine s m args below meth c H locs 0 0 Q (F0 m 132 ls []) := by
  have hx := fx.1
  have hb := fx.2.1
  unfold f_A_readLine_132 at h
  refine lv_aload_n (pc := 132) hx hb d_A_readLine_132 rfl (lv_at hl 0 rfl) ?_
  refine rsV (pc := 133) hw (rnV (pc := 133) xtC fx hw (c_A_takePlace h _) cw_A_127 (rcC_10 hw) rfl ⟨Nat.le_of_ble_eq_true rfl, Nat.le_of_ble_eq_true rfl⟩ hl.1 (Nat.le_of_ble_eq_true rfl) d_A_readLine_133 ⟨Nat.zero_le _, Nat.zero_le _⟩) (fun σ_6 H locs hw h => ?_)
  exact HR d_A_readLine_136 h hw
set_option maxHeartbeats 4000000 in
set_option maxRecDepth 100000 in
theorem c_A_readLine_70 (fx : CallFix p m c b_A_readLine 5 s args GW RNA) {post : SS → Prop} (HR : RetV p l e r_A_readLine s m args below meth c Q D vcl (tyl cA) (wC cA a) (XC ad) A b_A_readLine post) {σ : SS} {x1 : Int32} {s0 : Nat} {H : Heap} {locs : List Loc} {ls : Array Slot} (h : f_A_readLine_70 post σ x1 s0) (hw : CX D vcl (tyl cA) (wC cA a σ) (XC ad) A s H locs) (hl : lv_has ls 5 [(0, .ref (a 10)), (1, .int x1)]) : W p l e r_A_readLine s m args below meth c H locs 0 0 Q (F0 m 70 ls [.ref (ad 0 s0)]) := by
  have hx := fx.1
  have hb := fx.2.1
  unfold f_A_readLine_70 at h
  refine lv_astore_n (pc := 70) (lv' := [(3, .ref (ad 0 s0)), (0, .ref (a 10)), (1, .int x1)]) hx hb d_A_readLine_70 rfl hl (by decide) rfl (fun ls hl => ?_)
  refine lv_aload_n (pc := 71) hx hb d_A_readLine_71 rfl (lv_at hl 0 rfl) ?_
  have b_8 := h.1
  replace h := h.2
  refine geS_form (pc := 72) fx hw b_8 kw_1556 d_A_readLine_72 ?_
  refine lv_if_eq (pc := 75) (tgt := 86) hx hb d_A_readLine_75 (by decide) (fun c9 => ?_) (fun c9 => ?_)
  · replace h := h.1 c9
    exact c_A_readLine_86  fx HR h hw (lv_sub hl [1, 0] rfl)
  · replace h := h.2 c9
    refine lv_aload_n (pc := 78) hx hb d_A_readLine_78 rfl (lv_at hl 0 rfl) ?_
    refine geS_form (pc := 79) fx hw b_8 kw_1556 d_A_readLine_79 ?_
    refine lv_iconst (pc := 82) (v := 1) hx hb d_A_readLine_82 (by decide) ?_
    refine lv_icmp_ne (pc := 83) (tgt := 101) hx hb d_A_readLine_83 (by decide) (fun c9 => ?_) (fun c9 => ?_)
    · replace h := h.2 c9
      refine lv_iload_n (pc := 101) hx hb d_A_readLine_101 rfl (lv_at hl 2 rfl) ?_
      refine lv_if_ne (pc := 102) (tgt := 132) hx hb d_A_readLine_102 (by decide) (fun c9 => ?_) (fun c9 => ?_)
      · replace h := h.2 c9
        exact c_A_readLine_132  fx HR h hw (lv_sub hl [1] rfl)
      · replace h := h.1 c9
        refine lv_aload_n (pc := 105) hx hb d_A_readLine_105 rfl (lv_at hl 1 rfl) ?_
        refine lv_aload_n (pc := 106) hx hb d_A_readLine_106 rfl (lv_at hl 0 rfl) ?_
        refine rsI (pc := 107) hw (rnV (pc := 107) xtC fx hw (c_A_readStatement h _) cw_A_111 (rcC_10 hw) rfl ⟨Nat.le_of_ble_eq_true rfl, Nat.le_of_ble_eq_true rfl⟩ hl.1 (Nat.le_of_ble_eq_true rfl) d_A_readLine_107 ⟨Nat.zero_le _, Nat.zero_le _⟩) (fun r_10 σ_9 H locs hw h => ?_)
        refine lv_istore (pc := 110) (lv' := [(4, .int r_10), (3, .ref (ad 0 s0)), (0, .ref (a 10)), (1, .int x1)]) hx hb d_A_readLine_110 hl (by decide) rfl (fun ls hl => ?_)
        refine lv_aload_n (pc := 112) hx hb d_A_readLine_112 rfl (lv_at hl 2 rfl) ?_
        refine lv_aload_n (pc := 113) hx hb d_A_readLine_113 rfl (lv_at hl 1 rfl) ?_
        refine geS_bits (pc := 114) fx hw b_8 kw_1557 d_A_readLine_114 ?_
        refine lv_iload (pc := 117) hx hb d_A_readLine_117 (lv_at hl 0 rfl) ?_
        refine lv_ior (pc := 119) hx hb d_A_readLine_119 ?_
        refine lv_aload_n (pc := 120) hx hb d_A_readLine_120 rfl (lv_at hl 2 rfl) ?_
        refine lv_aload_n (pc := 121) hx hb d_A_readLine_121 rfl (lv_at hl 1 rfl) ?_
        refine geS_form (pc := 122) fx hw b_8 kw_1556 d_A_readLine_122 ?_
        refine rsI (pc := 125) hw (rnV (pc := 125) xtC fx hw (c_A_operandBits h _) cw_A_121 (rcC_10 hw) rfl ⟨Nat.le_of_ble_eq_true rfl, Nat.le_of_ble_eq_true rfl⟩ hl.1 (Nat.le_of_ble_eq_true rfl) d_A_readLine_125 ⟨Nat.zero_le _, Nat.zero_le _⟩) (fun r_12 σ_11 H locs hw h => ?_)
        refine lv_ior (pc := 128) hx hb d_A_readLine_128 ?_
        refine rsV (pc := 129) hw (rnV (pc := 129) xtC fx hw (c_A_keepWord h _) cw_A_124 (rcC_10 hw) rfl ⟨Nat.le_of_ble_eq_true rfl, Nat.le_of_ble_eq_true rfl⟩ hl.1 (Nat.le_of_ble_eq_true rfl) d_A_readLine_129 ⟨Nat.zero_le _, Nat.zero_le _⟩) (fun σ_13 H locs hw h => ?_)
        exact c_A_readLine_132  fx HR h hw (lv_sub hl [2] rfl)
    · replace h := h.1 c9
      exact c_A_readLine_86  fx HR h hw (lv_sub hl [1, 0] rfl)
set_option maxHeartbeats 4000000 in
set_option maxRecDepth 100000 in
theorem c_A_readLine_45 (fx : CallFix p m c b_A_readLine 5 s args GW RNA) {post : SS → Prop} (HR : RetV p l e r_A_readLine s m args below meth c Q D vcl (tyl cA) (wC cA a) (XC ad) A b_A_readLine post) {σ : SS} {x1 : Int32} {x2 : Int32} {H : Heap} {locs : List Loc} {ls : Array Slot} (h : f_A_readLine_45 post σ x1 x2) (hw : CX D vcl (tyl cA) (wC cA a σ) (XC ad) A s H locs) (hl : lv_has ls 5 [(0, .ref (a 10)), (1, .int x1), (2, .int x2)]) : W p l e r_A_readLine s m args below meth c H locs 0 0 Q (F0 m 45 ls []) := by
  have hx := fx.1
  have hb := fx.2.1
  unfold f_A_readLine_45 at h
  refine lv_iload_n (pc := 45) hx hb d_A_readLine_45 rfl (lv_at hl 2 rfl) ?_
  refine lv_iconst (pc := 46) (v := 2) hx hb d_A_readLine_46 (by decide) ?_
  refine lv_icmp_ne (pc := 47) (tgt := 67) hx hb d_A_readLine_47 (by decide) (fun c9 => ?_) (fun c9 => ?_)
  · replace h := h.2 c9
    refine gzS_WORD (pc := 67) fx hw kw_543 d_A_readLine_67 ?_
    exact c_A_readLine_70  fx HR h hw (lv_sub hl [0, 1] rfl)
  · replace h := h.1 c9
    refine lv_aload_n (pc := 50) hx hb d_A_readLine_50 rfl (lv_at hl 0 rfl) ?_
    refine gC_10_items (pc := 51) fx hw kw_216 d_A_readLine_51 ?_
    refine lv_aload_n (pc := 54) hx hb d_A_readLine_54 rfl (lv_at hl 0 rfl) ?_
    refine gC_10_at (pc := 55) fx hw kw_227 d_A_readLine_55 ?_
    refine rsJ (pc := 58) hw (rnV (pc := 58) xtC fx hw (c_I_nameAt h _) cw_A_94 (rcC_11 hw) rfl ⟨Nat.le_of_ble_eq_true rfl, Nat.le_of_ble_eq_true rfl⟩ hl.1 (Nat.le_of_ble_eq_true rfl) d_A_readLine_58 ⟨Nat.zero_le _, Nat.zero_le _⟩) (fun r_16 σ_15 H locs hw h => ?_)
    refine rsN (pc := 61) hw (rnS (pc := 61) xtC fx hw (c_S_named h _) cw_A_98 rfl ⟨Nat.le_of_ble_eq_true rfl, Nat.le_of_ble_eq_true rfl⟩ hl.1 (Nat.le_of_ble_eq_true rfl) d_A_readLine_61 ⟨Nat.zero_le _, Nat.zero_le _⟩) (fun r_18 σ_17 H locs hw h => ?_)
    refine lv_goto (pc := 64) (tgt := 70) hx hb d_A_readLine_64 (by decide) ?_
    exact c_A_readLine_70  fx HR h hw (lv_sub hl [0, 1] rfl)
set_option maxHeartbeats 4000000 in
set_option maxRecDepth 100000 in
theorem e_A_readLine (fx : CallFix p m c b_A_readLine 5 s args GW RNA) {post : SS → Prop} (HR : RetV p l e r_A_readLine s m args below meth c Q D vcl (tyl cA) (wC cA a) (XC ad) A b_A_readLine post) {σ : SS} {x1 : Int32} {H : Heap} {locs : List Loc} {ls : Array Slot} (h : f_A_readLine post σ x1) (hw : CX D vcl (tyl cA) (wC cA a σ) (XC ad) A s H locs) (hl : lv_has ls 5 [(0, .ref (a 10)), (1, .int x1)]) : W p l e r_A_readLine s m args below meth c H locs 0 0 Q (F0 m 0 ls []) := by
  have hx := fx.1
  have hb := fx.2.1
  unfold f_A_readLine at h
  refine lv_aload_n (pc := 0) hx hb d_A_readLine_0 rfl (lv_at hl 0 rfl) ?_
  refine lv_iload_n (pc := 1) hx hb d_A_readLine_1 rfl (lv_at hl 1 rfl) ?_
  refine rsV (pc := 2) hw (rnV (pc := 2) xtC fx hw (c_A_readLabels h _) cw_A_83 (rcC_10 hw) rfl ⟨Nat.le_of_ble_eq_true rfl, Nat.le_of_ble_eq_true rfl⟩ hl.1 (Nat.le_of_ble_eq_true rfl) d_A_readLine_2 ⟨Nat.zero_le _, Nat.zero_le _⟩) (fun σ_19 H locs hw h => ?_)
  refine lv_aload_n (pc := 5) hx hb d_A_readLine_5 rfl (lv_at hl 0 rfl) ?_
  refine rsI (pc := 6) hw (rnV (pc := 6) xtC fx hw (c_A_look h _) cw_A_86 (rcC_10 hw) rfl ⟨Nat.le_of_ble_eq_true rfl, Nat.le_of_ble_eq_true rfl⟩ hl.1 (Nat.le_of_ble_eq_true rfl) d_A_readLine_6 ⟨Nat.zero_le _, Nat.zero_le _⟩) (fun r_22 σ_21 H locs hw h => ?_)
  refine lv_istore_n (pc := 9) (lv' := [(2, .int r_22), (0, .ref (a 10)), (1, .int x1)]) hx hb d_A_readLine_9 rfl hl (by decide) rfl (fun ls hl => ?_)
  refine lv_iload_n (pc := 10) hx hb d_A_readLine_10 rfl (lv_at hl 0 rfl) ?_
  refine lv_bipush (pc := 11) (v := 10) hx hb d_A_readLine_11 (by decide) ?_
  refine lv_icmp_ne (pc := 13) (tgt := 17) hx hb d_A_readLine_13 (by decide) (fun c9 => ?_) (fun c9 => ?_)
  · replace h := h.2 c9
    refine lv_iload_n (pc := 17) hx hb d_A_readLine_17 rfl (lv_at hl 0 rfl) ?_
    refine lv_iconst (pc := 18) (v := 2) hx hb d_A_readLine_18 (by decide) ?_
    refine lv_icmp_eq (pc := 19) (tgt := 45) hx hb d_A_readLine_19 (by decide) (fun c9 => ?_) (fun c9 => ?_)
    · replace h := h.1 c9
      exact c_A_readLine_45  fx HR h hw (lv_sub hl [1, 2, 0] rfl)
    · replace h := h.2 c9
      refine lv_iload_n (pc := 22) hx hb d_A_readLine_22 rfl (lv_at hl 0 rfl) ?_
      refine lv_iconst (pc := 23) (v := 3) hx hb d_A_readLine_23 (by decide) ?_
      refine lv_icmp_eq (pc := 24) (tgt := 45) hx hb d_A_readLine_24 (by decide) (fun c9 => ?_) (fun c9 => ?_)
      · replace h := h.1 c9
        exact c_A_readLine_45  fx HR h hw (lv_sub hl [1, 2, 0] rfl)
      · replace h := h.2 c9
        refine lv_iload_n (pc := 27) hx hb d_A_readLine_27 rfl (lv_at hl 0 rfl) ?_
        refine lv_bipush (pc := 28) (v := 43) hx hb d_A_readLine_28 (by decide) ?_
        refine lv_icmp_eq (pc := 30) (tgt := 45) hx hb d_A_readLine_30 (by decide) (fun c9 => ?_) (fun c9 => ?_)
        · replace h := h.1 c9
          exact c_A_readLine_45  fx HR h hw (lv_sub hl [1, 2, 0] rfl)
        · replace h := h.2 c9
          refine lv_iload_n (pc := 33) hx hb d_A_readLine_33 rfl (lv_at hl 0 rfl) ?_
          refine lv_bipush (pc := 34) (v := 45) hx hb d_A_readLine_34 (by decide) ?_
          refine lv_icmp_eq (pc := 36) (tgt := 45) hx hb d_A_readLine_36 (by decide) (fun c9 => ?_) (fun c9 => ?_)
          · replace h := h.1 c9
            exact c_A_readLine_45  fx HR h hw (lv_sub hl [1, 2, 0] rfl)
          · replace h := h.2 c9
            refine lv_aload_n (pc := 39) hx hb d_A_readLine_39 rfl (lv_at hl 1 rfl) ?_
            refine lv_iconst (pc := 40) (v := 2) hx hb d_A_readLine_40 (by decide) ?_
            refine rsV (pc := 41) hw (rnV (pc := 41) xtC fx hw (c_A_complain h _) cw_A_90 (rcC_10 hw) rfl ⟨Nat.le_of_ble_eq_true rfl, Nat.le_of_ble_eq_true rfl⟩ hl.1 (Nat.le_of_ble_eq_true rfl) d_A_readLine_41 ⟨Nat.zero_le _, Nat.zero_le _⟩) (fun σ_23 H locs hw h => ?_)
            exact HR d_A_readLine_44 h hw
  · replace h := h.1 c9
    exact HR d_A_readLine_16 h hw
end
theorem c_A_readLine {l : Launch} {D : va_G} {cA : Nat → ClassId} {a : Nat → Nat} {ad : Nat → Nat → Nat} {σ : SS} {post : SS → Prop} {x1 : Int32} (h : f_A_readLine post σ x1) : mV l y_A_readLine b_A_readLine 5 none 8 188 D vcl (tyl cA) (wC cA a) (XC ad) σ [.ref (a 10), .int x1] post := met_V (by decide) (Nat.le_of_ble_eq_true rfl) (fun p e s m args below meth c A Q fx HR H ls hw hl => e_A_readLine  fx HR h hw hl)
abbrev r_A_goThrough : Room := { frames := 9, cells := 0, slots := 0, locals := 212 }
def f_A_goThrough_69 (post : SS → Prop) (k14 : SS → Int32 → Int32 → Int32 → Prop) (σ : SS) (x1 : Int32) (x2 : Int32) (x3 : Int32) : Prop := nm (x3 + 1) fun x3_1 => k14 σ x1 x2 x3_1
def f_A_goThrough_14 (post : SS → Prop) : Nat → SS → Int32 → Int32 → Int32 → Prop
  | 0, _, _, _, _ => False
  | n + 1, σ, x1, x2, x3 => br ((σ.1 35) ≤ x3) (post σ) (br ((σ.1 32) = 0) (f_I_kindAt (fun r_3 σ_2 => br (r_3 = 10) (nm (sI σ_2 31 ((σ_2.1 31) + 1)) fun σ_4 => nm (sI σ_4 29 x2) fun σ_5 => f_A_readLine (fun σ_6 => nm (x3 + 1) fun x2_8 => f_A_goThrough_69 post (f_A_goThrough_14 post n) σ_6 x1 x2_8 x3) σ_5 x1) (f_A_goThrough_69 post (f_A_goThrough_14 post n) σ_2 x1 x2 x3)) σ x3) (post σ))
def f_A_goThrough (post : SS → Prop) (σ : SS) (x1 : Int32) : Prop := nm (sI σ 30 0) fun σ_9 => nm (sI σ_9 31 0) fun σ_10 => ∃ n9, f_A_goThrough_14 post n9 σ_10 x1 0 0
section
variable {p : Program} {l : Launch} {e : Env} {s : State} {m : MethodId} {args : Array Value} {below : List Frame} {meth : Method} {c : Code} {Q : State → Prop} {D : va_G} {cA : Nat → ClassId} {a : Nat → Nat} {ad : Nat → Nat → Nat} {A : Nat → Prop}
set_option maxHeartbeats 4000000 in
set_option maxRecDepth 100000 in
theorem c_A_goThrough_69 (fx : CallFix p m c b_A_goThrough 4 s args GW RNA) {post : SS → Prop} (HR : RetV p l e r_A_goThrough s m args below meth c Q D vcl (tyl cA) (wC cA a) (XC ad) A b_A_goThrough post) {k14 : SS → Int32 → Int32 → Int32 → Prop} (K14 : ∀ {σ : SS} {x1 : Int32} {x2 : Int32} {x3 : Int32} {H : Heap} {locs : List Loc} {ls : Array Slot}, k14 σ x1 x2 x3 → CX D vcl (tyl cA) (wC cA a σ) (XC ad) A s H locs → lv_has ls 4 [(0, .ref (a 10)), (1, .int x1), (2, .int x2), (3, .int x3)] → W p l e r_A_goThrough s m args below meth c H locs 0 0 Q (F0 m 14 ls [])) {σ : SS} {x1 : Int32} {x2 : Int32} {x3 : Int32} {H : Heap} {locs : List Loc} {ls : Array Slot} (h : f_A_goThrough_69 post k14 σ x1 x2 x3) (hw : CX D vcl (tyl cA) (wC cA a σ) (XC ad) A s H locs) (hl : lv_has ls 4 [(0, .ref (a 10)), (1, .int x1), (2, .int x2), (3, .int x3)]) : W p l e r_A_goThrough s m args below meth c H locs 0 0 Q (F0 m 69 ls []) := by
  have hx := fx.1
  have hb := fx.2.1
  unfold f_A_goThrough_69 at h
  obtain ⟨x3_1, e9⟩ : ∃ z : Int32, z = x3 + 1 := ⟨_, rfl⟩
  replace h := nm_u h e9
  refine lv_iinc (pc := 69) (v := x3_1) (lv' := [(3, .int x3_1), (0, .ref (a 10)), (1, .int x1), (2, .int x2)]) hx hb d_A_goThrough_69 hl (k := 3) rfl (by rw [e9]; rfl) (by decide) rfl (fun ls hl => ?_)
  clear e9
  refine lv_goto (pc := 72) (tgt := 14) hx hb d_A_goThrough_72 (by decide) ?_
  exact K14 h hw (lv_sub hl [1, 2, 3, 0] rfl)
set_option maxHeartbeats 4000000 in
set_option maxRecDepth 100000 in
theorem c_A_goThrough_14 (fx : CallFix p m c b_A_goThrough 4 s args GW RNA) {post : SS → Prop} (HR : RetV p l e r_A_goThrough s m args below meth c Q D vcl (tyl cA) (wC cA a) (XC ad) A b_A_goThrough post) : ∀ (n : Nat) {σ : SS} {x1 : Int32} {x2 : Int32} {x3 : Int32} {H : Heap} {locs : List Loc} {ls : Array Slot}, f_A_goThrough_14 post n σ x1 x2 x3 → CX D vcl (tyl cA) (wC cA a σ) (XC ad) A s H locs → lv_has ls 4 [(0, .ref (a 10)), (1, .int x1), (2, .int x2), (3, .int x3)] → W p l e r_A_goThrough s m args below meth c H locs 0 0 Q (F0 m 14 ls []) := by
  have hx := fx.1
  have hb := fx.2.1
  intro n
  induction n with
  | zero => intro σ x1 x2 x3 H locs ls h; exact h.elim
  | succ n ih =>
    intro σ x1 x2 x3 H locs ls h hw hl
    have K14 := @ih
    unfold f_A_goThrough_14 at h
    refine lv_iload_n (pc := 14) hx hb d_A_goThrough_14 rfl (lv_at hl 3 rfl) ?_
    refine lv_aload_n (pc := 15) hx hb d_A_goThrough_15 rfl (lv_at hl 0 rfl) ?_
    refine gC_10_items (pc := 16) fx hw kw_216 d_A_goThrough_16 ?_
    refine gC_11_count (pc := 19) fx hw kw_186 d_A_goThrough_19 ?_
    refine lv_icmp_ge (pc := 22) (tgt := 75) hx hb d_A_goThrough_22 (by decide) (fun c9 => ?_) (fun c9 => ?_)
    · replace h := h.1 c9
      exact HR d_A_goThrough_75 h hw
    · replace h := h.2 c9
      refine lv_aload_n (pc := 25) hx hb d_A_goThrough_25 rfl (lv_at hl 0 rfl) ?_
      refine gC_10_faultNumber (pc := 26) fx hw kw_230 d_A_goThrough_26 ?_
      refine lv_if_ne (pc := 29) (tgt := 75) hx hb d_A_goThrough_29 (by decide) (fun c9 => ?_) (fun c9 => ?_)
      · replace h := h.2 c9
        exact HR d_A_goThrough_75 h hw
      · replace h := h.1 c9
        refine lv_aload_n (pc := 32) hx hb d_A_goThrough_32 rfl (lv_at hl 0 rfl) ?_
        refine gC_10_items (pc := 33) fx hw kw_216 d_A_goThrough_33 ?_
        refine lv_iload_n (pc := 36) hx hb d_A_goThrough_36 rfl (lv_at hl 3 rfl) ?_
        refine rsI (pc := 37) hw (rnV (pc := 37) xtC fx hw (c_I_kindAt h _) cw_A_72 (rcC_11 hw) rfl ⟨Nat.le_of_ble_eq_true rfl, Nat.le_of_ble_eq_true rfl⟩ hl.1 (Nat.le_of_ble_eq_true rfl) d_A_goThrough_37 ⟨Nat.zero_le _, Nat.zero_le _⟩) (fun r_3 σ_2 H locs hw h => ?_)
        refine lv_bipush (pc := 40) (v := 10) hx hb d_A_goThrough_40 (by decide) ?_
        refine lv_icmp_ne (pc := 42) (tgt := 69) hx hb d_A_goThrough_42 (by decide) (fun c9 => ?_) (fun c9 => ?_)
        · replace h := h.2 c9
          exact c_A_goThrough_69  fx HR K14 h hw (lv_sub hl [0, 1, 2, 3] rfl)
        · replace h := h.1 c9
          refine lv_aload_n (pc := 45) hx hb d_A_goThrough_45 rfl (lv_at hl 0 rfl) ?_
          refine lv_dup (pc := 46) hx hb d_A_goThrough_46 rfl ?_
          refine gC_10_line (pc := 47) fx hw kw_229 d_A_goThrough_47 ?_
          refine lv_iconst (pc := 50) (v := 1) hx hb d_A_goThrough_50 (by decide) ?_
          refine lv_iadd (pc := 51) hx hb d_A_goThrough_51 ?_
          refine pC_10_line (pc := 52) fx hw kw_229 d_A_goThrough_52 (fun σ_4 e9 H locs hw => ?_)
          replace h := nm_u h e9
          clear e9
          refine lv_aload_n (pc := 55) hx hb d_A_goThrough_55 rfl (lv_at hl 0 rfl) ?_
          refine lv_iload_n (pc := 56) hx hb d_A_goThrough_56 rfl (lv_at hl 2 rfl) ?_
          refine pC_10_at (pc := 57) fx hw kw_227 d_A_goThrough_57 (fun σ_5 e9 H locs hw => ?_)
          replace h := nm_u h e9
          clear e9
          refine lv_aload_n (pc := 60) hx hb d_A_goThrough_60 rfl (lv_at hl 0 rfl) ?_
          refine lv_iload_n (pc := 61) hx hb d_A_goThrough_61 rfl (lv_at hl 1 rfl) ?_
          refine rsV (pc := 62) hw (rnV (pc := 62) xtC fx hw (c_A_readLine h _) cw_A_79 (rcC_10 hw) rfl ⟨Nat.le_of_ble_eq_true rfl, Nat.le_of_ble_eq_true rfl⟩ hl.1 (Nat.le_of_ble_eq_true rfl) d_A_goThrough_62 ⟨Nat.zero_le _, Nat.zero_le _⟩) (fun σ_6 H locs hw h => ?_)
          refine lv_iload_n (pc := 65) hx hb d_A_goThrough_65 rfl (lv_at hl 3 rfl) ?_
          refine lv_iconst (pc := 66) (v := 1) hx hb d_A_goThrough_66 (by decide) ?_
          refine lv_iadd (pc := 67) hx hb d_A_goThrough_67 ?_
          refine lv_topi (fun x2_8 e9 => ?_)
          replace h := nm_u h e9
          clear e9
          refine lv_istore_n (pc := 68) (lv' := [(2, .int x2_8), (0, .ref (a 10)), (1, .int x1), (3, .int x3)]) hx hb d_A_goThrough_68 rfl hl (by decide) rfl (fun ls hl => ?_)
          exact c_A_goThrough_69  fx HR K14 h hw (lv_sub hl [1, 2, 0, 3] rfl)
set_option maxHeartbeats 4000000 in
set_option maxRecDepth 100000 in
theorem e_A_goThrough (fx : CallFix p m c b_A_goThrough 4 s args GW RNA) {post : SS → Prop} (HR : RetV p l e r_A_goThrough s m args below meth c Q D vcl (tyl cA) (wC cA a) (XC ad) A b_A_goThrough post) {σ : SS} {x1 : Int32} {H : Heap} {locs : List Loc} {ls : Array Slot} (h : f_A_goThrough post σ x1) (hw : CX D vcl (tyl cA) (wC cA a σ) (XC ad) A s H locs) (hl : lv_has ls 4 [(0, .ref (a 10)), (1, .int x1)]) : W p l e r_A_goThrough s m args below meth c H locs 0 0 Q (F0 m 0 ls []) := by
  have hx := fx.1
  have hb := fx.2.1
  unfold f_A_goThrough at h
  refine lv_aload_n (pc := 0) hx hb d_A_goThrough_0 rfl (lv_at hl 0 rfl) ?_
  refine lv_iconst (pc := 1) (v := 0) hx hb d_A_goThrough_1 (by decide) ?_
  refine pC_10_location (pc := 2) fx hw kw_228 d_A_goThrough_2 (fun σ_9 e9 H locs hw => ?_)
  replace h := nm_u h e9
  clear e9
  refine lv_aload_n (pc := 5) hx hb d_A_goThrough_5 rfl (lv_at hl 0 rfl) ?_
  refine lv_iconst (pc := 6) (v := 0) hx hb d_A_goThrough_6 (by decide) ?_
  refine pC_10_line (pc := 7) fx hw kw_229 d_A_goThrough_7 (fun σ_10 e9 H locs hw => ?_)
  replace h := nm_u h e9
  clear e9
  refine lv_iconst (pc := 10) (v := 0) hx hb d_A_goThrough_10 (by decide) ?_
  refine lv_istore_n (pc := 11) (lv' := [(2, .int 0), (0, .ref (a 10)), (1, .int x1)]) hx hb d_A_goThrough_11 rfl hl (by decide) rfl (fun ls hl => ?_)
  refine lv_iconst (pc := 12) (v := 0) hx hb d_A_goThrough_12 (by decide) ?_
  refine lv_istore_n (pc := 13) (lv' := [(3, .int 0), (2, .int 0), (0, .ref (a 10)), (1, .int x1)]) hx hb d_A_goThrough_13 rfl hl (by decide) rfl (fun ls hl => ?_)
  obtain ⟨n9, h⟩ := h
  exact c_A_goThrough_14  fx HR n9 h hw (lv_sub hl [2, 3, 1, 0] rfl)
end
theorem c_A_goThrough {l : Launch} {D : va_G} {cA : Nat → ClassId} {a : Nat → Nat} {ad : Nat → Nat → Nat} {σ : SS} {post : SS → Prop} {x1 : Int32} (h : f_A_goThrough post σ x1) : mV l y_A_goThrough b_A_goThrough 4 none 9 212 D vcl (tyl cA) (wC cA a) (XC ad) σ [.ref (a 10), .int x1] post := met_V (by decide) (Nat.le_of_ble_eq_true rfl) (fun p e s m args below meth c A Q fx HR H ls hw hl => e_A_goThrough  fx HR h hw hl)
abbrev r_N_why : Room := { frames := 0, cells := 0, slots := 0, locals := 0 }
def f_N_why (post : Int32 → SS → Prop) (σ : SS) : Prop := post (σ.1 8) σ
section
variable {p : Program} {l : Launch} {e : Env} {s : State} {m : MethodId} {args : Array Value} {below : List Frame} {meth : Method} {c : Code} {Q : State → Prop} {D : va_G} {cA : Nat → ClassId} {a : Nat → Nat} {ad : Nat → Nat → Nat} {A : Nat → Prop}
set_option maxHeartbeats 4000000 in
set_option maxRecDepth 100000 in
theorem e_N_why (fx : CallFix p m c b_N_why 1 s args GW RNN) {post : Int32 → SS → Prop} (HR : RetI p l e r_N_why s m args below meth c Q D vcl (tyl cA) (wC cA a) (XC ad) A b_N_why .int post) {σ : SS} {H : Heap} {locs : List Loc} {ls : Array Slot} (h : f_N_why post σ) (hw : CX D vcl (tyl cA) (wC cA a σ) (XC ad) A s H locs) (hl : lv_has ls 1 [(0, .ref (a 0))]) : W p l e r_N_why s m args below meth c H locs 0 0 Q (F0 m 0 ls []) := by
  have hx := fx.1
  have hb := fx.2.1
  unfold f_N_why at h
  refine lv_aload_n (pc := 0) hx hb d_N_why_0 rfl (lv_at hl 0 rfl) ?_
  refine gC_0_machine (pc := 1) fx hw kw_276 d_N_why_1 ?_
  refine gC_1_ending (pc := 4) fx hw kw_138 d_N_why_4 ?_
  exact HR rfl d_N_why_7 h hw
end
theorem c_N_why {l : Launch} {D : va_G} {cA : Nat → ClassId} {a : Nat → Nat} {ad : Nat → Nat → Nat} {σ : SS} {post : Int32 → SS → Prop} (h : f_N_why post σ) : mI l y_N_why b_N_why 1 (some .int) 0 0 D vcl (tyl cA) (wC cA a) (XC ad) σ [.ref (a 0)] post := met_I (by decide) (Nat.le_of_ble_eq_true rfl) (fun p e s m args below meth c A Q fx HR H ls hw hl => e_N_why  fx HR h hw hl)
abbrev r_N_printed : Room := { frames := 1, cells := 0, slots := 0, locals := 21 }
def f_N_printed (post : Int32 → SS → Prop) (σ : SS) (x1 : Int32) : Prop := f_P_characterAt (fun r_2 σ_1 => post r_2 σ_1) σ x1
section
variable {p : Program} {l : Launch} {e : Env} {s : State} {m : MethodId} {args : Array Value} {below : List Frame} {meth : Method} {c : Code} {Q : State → Prop} {D : va_G} {cA : Nat → ClassId} {a : Nat → Nat} {ad : Nat → Nat → Nat} {A : Nat → Prop}
set_option maxHeartbeats 4000000 in
set_option maxRecDepth 100000 in
theorem e_N_printed (fx : CallFix p m c b_N_printed 2 s args GW RNN) {post : Int32 → SS → Prop} (HR : RetI p l e r_N_printed s m args below meth c Q D vcl (tyl cA) (wC cA a) (XC ad) A b_N_printed .int post) {σ : SS} {x1 : Int32} {H : Heap} {locs : List Loc} {ls : Array Slot} (h : f_N_printed post σ x1) (hw : CX D vcl (tyl cA) (wC cA a σ) (XC ad) A s H locs) (hl : lv_has ls 2 [(0, .ref (a 0)), (1, .int x1)]) : W p l e r_N_printed s m args below meth c H locs 0 0 Q (F0 m 0 ls []) := by
  have hx := fx.1
  have hb := fx.2.1
  unfold f_N_printed at h
  refine lv_aload_n (pc := 0) hx hb d_N_printed_0 rfl (lv_at hl 0 rfl) ?_
  refine gC_0_machine (pc := 1) fx hw kw_276 d_N_printed_1 ?_
  refine gC_1_printer (pc := 4) fx hw kw_127 d_N_printed_4 ?_
  refine lv_iload_n (pc := 7) hx hb d_N_printed_7 rfl (lv_at hl 1 rfl) ?_
  refine rsI (pc := 8) hw (rnV (pc := 8) xtC fx hw (c_P_characterAt h _) cw_N_87 (rcC_6 hw) rfl ⟨Nat.le_of_ble_eq_true rfl, Nat.le_of_ble_eq_true rfl⟩ hl.1 (Nat.le_of_ble_eq_true rfl) d_N_printed_8 ⟨Nat.zero_le _, Nat.zero_le _⟩) (fun r_2 σ_1 H locs hw h => ?_)
  exact HR rfl d_N_printed_11 h hw
end
theorem c_N_printed {l : Launch} {D : va_G} {cA : Nat → ClassId} {a : Nat → Nat} {ad : Nat → Nat → Nat} {σ : SS} {post : Int32 → SS → Prop} {x1 : Int32} (h : f_N_printed post σ x1) : mI l y_N_printed b_N_printed 2 (some .int) 1 21 D vcl (tyl cA) (wC cA a) (XC ad) σ [.ref (a 0), .int x1] post := met_I (by decide) (Nat.le_of_ble_eq_true rfl) (fun p e s m args below meth c A Q fx HR H ls hw hl => e_N_printed  fx HR h hw hl)
abbrev r_N_tear : Room := { frames := 1, cells := 0, slots := 0, locals := 21 }
def f_N_tear (post : Int32 → SS → Prop) (σ : SS) : Prop := f_P_takePaper (fun r_2 σ_1 => post r_2 σ_1) σ
section
variable {p : Program} {l : Launch} {e : Env} {s : State} {m : MethodId} {args : Array Value} {below : List Frame} {meth : Method} {c : Code} {Q : State → Prop} {D : va_G} {cA : Nat → ClassId} {a : Nat → Nat} {ad : Nat → Nat → Nat} {A : Nat → Prop}
set_option maxHeartbeats 4000000 in
set_option maxRecDepth 100000 in
theorem e_N_tear (fx : CallFix p m c b_N_tear 1 s args GW RNN) {post : Int32 → SS → Prop} (HR : RetI p l e r_N_tear s m args below meth c Q D vcl (tyl cA) (wC cA a) (XC ad) A b_N_tear .int post) {σ : SS} {H : Heap} {locs : List Loc} {ls : Array Slot} (h : f_N_tear post σ) (hw : CX D vcl (tyl cA) (wC cA a σ) (XC ad) A s H locs) (hl : lv_has ls 1 [(0, .ref (a 0))]) : W p l e r_N_tear s m args below meth c H locs 0 0 Q (F0 m 0 ls []) := by
  have hx := fx.1
  have hb := fx.2.1
  unfold f_N_tear at h
  refine lv_aload_n (pc := 0) hx hb d_N_tear_0 rfl (lv_at hl 0 rfl) ?_
  refine gC_0_machine (pc := 1) fx hw kw_276 d_N_tear_1 ?_
  refine gC_1_printer (pc := 4) fx hw kw_127 d_N_tear_4 ?_
  refine rsI (pc := 7) hw (rnV (pc := 7) xtC fx hw (c_P_takePaper h _) cw_N_92 (rcC_6 hw) rfl ⟨Nat.le_of_ble_eq_true rfl, Nat.le_of_ble_eq_true rfl⟩ hl.1 (Nat.le_of_ble_eq_true rfl) d_N_tear_7 ⟨Nat.zero_le _, Nat.zero_le _⟩) (fun r_2 σ_1 H locs hw h => ?_)
  exact HR rfl d_N_tear_10 h hw
end
theorem c_N_tear {l : Launch} {D : va_G} {cA : Nat → ClassId} {a : Nat → Nat} {ad : Nat → Nat → Nat} {σ : SS} {post : Int32 → SS → Prop} (h : f_N_tear post σ) : mI l y_N_tear b_N_tear 1 (some .int) 1 21 D vcl (tyl cA) (wC cA a) (XC ad) σ [.ref (a 0)] post := met_I (by decide) (Nat.le_of_ble_eq_true rfl) (fun p e s m args below meth c A Q fx HR H ls hw hl => e_N_tear  fx HR h hw hl)
abbrev r_N_reset : Room := { frames := 4, cells := 0, slots := 0, locals := 81 }
def f_N_reset (post : SS → Prop) (σ : SS) : Prop := f_M_clear (fun σ_1 => f_A_clear (fun σ_3 => f_T_clear (fun σ_5 => post σ_5) σ_3) σ_1) σ
section
variable {p : Program} {l : Launch} {e : Env} {s : State} {m : MethodId} {args : Array Value} {below : List Frame} {meth : Method} {c : Code} {Q : State → Prop} {D : va_G} {cA : Nat → ClassId} {a : Nat → Nat} {ad : Nat → Nat → Nat} {A : Nat → Prop}
set_option maxHeartbeats 4000000 in
set_option maxRecDepth 100000 in
theorem e_N_reset (fx : CallFix p m c b_N_reset 1 s args GW RNN) {post : SS → Prop} (HR : RetV p l e r_N_reset s m args below meth c Q D vcl (tyl cA) (wC cA a) (XC ad) A b_N_reset post) {σ : SS} {H : Heap} {locs : List Loc} {ls : Array Slot} (h : f_N_reset post σ) (hw : CX D vcl (tyl cA) (wC cA a σ) (XC ad) A s H locs) (hl : lv_has ls 1 [(0, .ref (a 0))]) : W p l e r_N_reset s m args below meth c H locs 0 0 Q (F0 m 0 ls []) := by
  have hx := fx.1
  have hb := fx.2.1
  unfold f_N_reset at h
  refine lv_aload_n (pc := 0) hx hb d_N_reset_0 rfl (lv_at hl 0 rfl) ?_
  refine gC_0_machine (pc := 1) fx hw kw_276 d_N_reset_1 ?_
  refine rsV (pc := 4) hw (rnV (pc := 4) xtC fx hw (c_M_clear h _) cw_N_96 (rcC_1 hw) rfl ⟨Nat.le_of_ble_eq_true rfl, Nat.le_of_ble_eq_true rfl⟩ hl.1 (Nat.le_of_ble_eq_true rfl) d_N_reset_4 ⟨Nat.zero_le _, Nat.zero_le _⟩) (fun σ_1 H locs hw h => ?_)
  refine lv_aload_n (pc := 7) hx hb d_N_reset_7 rfl (lv_at hl 0 rfl) ?_
  refine gC_0_assembler (pc := 8) fx hw kw_277 d_N_reset_8 ?_
  refine rsV (pc := 11) hw (rnV (pc := 11) xtC fx hw (c_A_clear h _) cw_N_99 (rcC_10 hw) rfl ⟨Nat.le_of_ble_eq_true rfl, Nat.le_of_ble_eq_true rfl⟩ hl.1 (Nat.le_of_ble_eq_true rfl) d_N_reset_11 ⟨Nat.zero_le _, Nat.zero_le _⟩) (fun σ_3 H locs hw h => ?_)
  refine lv_aload_n (pc := 14) hx hb d_N_reset_14 rfl (lv_at hl 0 rfl) ?_
  refine gC_0_teller (pc := 15) fx hw kw_278 d_N_reset_15 ?_
  refine rsV (pc := 18) hw (rnV (pc := 18) xtC fx hw (c_T_clear h _) cw_N_100 (rcC_23 hw) rfl ⟨Nat.le_of_ble_eq_true rfl, Nat.le_of_ble_eq_true rfl⟩ hl.1 (Nat.le_of_ble_eq_true rfl) d_N_reset_18 ⟨Nat.zero_le _, Nat.zero_le _⟩) (fun σ_5 H locs hw h => ?_)
  exact HR d_N_reset_21 h hw
end
theorem c_N_reset {l : Launch} {D : va_G} {cA : Nat → ClassId} {a : Nat → Nat} {ad : Nat → Nat → Nat} {σ : SS} {post : SS → Prop} (h : f_N_reset post σ) : mV l y_N_reset b_N_reset 1 none 4 81 D vcl (tyl cA) (wC cA a) (XC ad) σ [.ref (a 0)] post := met_V (by decide) (Nat.le_of_ble_eq_true rfl) (fun p e s m args below meth c A Q fx HR H ls hw hl => e_N_reset  fx HR h hw hl)
abbrev r_N_assemble : Room := { frames := 10, cells := 0, slots := 0, locals := 235 }
def f_N_assemble (post : Int32 → SS → Prop) (σ : SS) : Prop := f_A_begin (fun σ_1 => f_A_goThrough (fun σ_3 => f_A_goThrough (fun σ_5 => f_A_finish (fun r_8 σ_7 => post r_8 σ_7) σ_5) σ_3 0) σ_1 1) σ
section
variable {p : Program} {l : Launch} {e : Env} {s : State} {m : MethodId} {args : Array Value} {below : List Frame} {meth : Method} {c : Code} {Q : State → Prop} {D : va_G} {cA : Nat → ClassId} {a : Nat → Nat} {ad : Nat → Nat → Nat} {A : Nat → Prop}
set_option maxHeartbeats 4000000 in
set_option maxRecDepth 100000 in
theorem e_N_assemble (fx : CallFix p m c b_N_assemble 1 s args GW RNN) {post : Int32 → SS → Prop} (HR : RetI p l e r_N_assemble s m args below meth c Q D vcl (tyl cA) (wC cA a) (XC ad) A b_N_assemble .int post) {σ : SS} {H : Heap} {locs : List Loc} {ls : Array Slot} (h : f_N_assemble post σ) (hw : CX D vcl (tyl cA) (wC cA a σ) (XC ad) A s H locs) (hl : lv_has ls 1 [(0, .ref (a 0))]) : W p l e r_N_assemble s m args below meth c H locs 0 0 Q (F0 m 0 ls []) := by
  have hx := fx.1
  have hb := fx.2.1
  unfold f_N_assemble at h
  refine lv_aload_n (pc := 0) hx hb d_N_assemble_0 rfl (lv_at hl 0 rfl) ?_
  refine gC_0_assembler (pc := 1) fx hw kw_277 d_N_assemble_1 ?_
  refine rsV (pc := 4) hw (rnV (pc := 4) xtC fx hw (c_A_begin h _) cw_N_113 (rcC_10 hw) rfl ⟨Nat.le_of_ble_eq_true rfl, Nat.le_of_ble_eq_true rfl⟩ hl.1 (Nat.le_of_ble_eq_true rfl) d_N_assemble_4 ⟨Nat.zero_le _, Nat.zero_le _⟩) (fun σ_1 H locs hw h => ?_)
  refine lv_aload_n (pc := 7) hx hb d_N_assemble_7 rfl (lv_at hl 0 rfl) ?_
  refine gC_0_assembler (pc := 8) fx hw kw_277 d_N_assemble_8 ?_
  refine lv_iconst (pc := 11) (v := 1) hx hb d_N_assemble_11 (by decide) ?_
  refine rsV (pc := 12) hw (rnV (pc := 12) xtC fx hw (c_A_goThrough h _) cw_N_116 (rcC_10 hw) rfl ⟨Nat.le_of_ble_eq_true rfl, Nat.le_of_ble_eq_true rfl⟩ hl.1 (Nat.le_of_ble_eq_true rfl) d_N_assemble_12 ⟨Nat.zero_le _, Nat.zero_le _⟩) (fun σ_3 H locs hw h => ?_)
  refine lv_aload_n (pc := 15) hx hb d_N_assemble_15 rfl (lv_at hl 0 rfl) ?_
  refine gC_0_assembler (pc := 16) fx hw kw_277 d_N_assemble_16 ?_
  refine lv_iconst (pc := 19) (v := 0) hx hb d_N_assemble_19 (by decide) ?_
  refine rsV (pc := 20) hw (rnV (pc := 20) xtC fx hw (c_A_goThrough h _) cw_N_116 (rcC_10 hw) rfl ⟨Nat.le_of_ble_eq_true rfl, Nat.le_of_ble_eq_true rfl⟩ hl.1 (Nat.le_of_ble_eq_true rfl) d_N_assemble_20 ⟨Nat.zero_le _, Nat.zero_le _⟩) (fun σ_5 H locs hw h => ?_)
  refine lv_aload_n (pc := 23) hx hb d_N_assemble_23 rfl (lv_at hl 0 rfl) ?_
  refine gC_0_assembler (pc := 24) fx hw kw_277 d_N_assemble_24 ?_
  refine lv_aload_n (pc := 27) hx hb d_N_assemble_27 rfl (lv_at hl 0 rfl) ?_
  refine gC_0_machine (pc := 28) fx hw kw_276 d_N_assemble_28 ?_
  refine rsI (pc := 31) hw (rnV (pc := 31) xtC fx hw (c_A_finish h _) cw_N_119 (rcC_10 hw) rfl ⟨Nat.le_of_ble_eq_true rfl, Nat.le_of_ble_eq_true rfl⟩ hl.1 (Nat.le_of_ble_eq_true rfl) d_N_assemble_31 ⟨Nat.zero_le _, Nat.zero_le _⟩) (fun r_8 σ_7 H locs hw h => ?_)
  exact HR rfl d_N_assemble_34 h hw
end
theorem c_N_assemble {l : Launch} {D : va_G} {cA : Nat → ClassId} {a : Nat → Nat} {ad : Nat → Nat → Nat} {σ : SS} {post : Int32 → SS → Prop} (h : f_N_assemble post σ) : mI l y_N_assemble b_N_assemble 1 (some .int) 10 235 D vcl (tyl cA) (wC cA a) (XC ad) σ [.ref (a 0)] post := met_I (by decide) (Nat.le_of_ble_eq_true rfl) (fun p e s m args below meth c A Q fx HR H ls hw hl => e_N_assemble  fx HR h hw hl)
abbrev r_N_label : Room := { frames := 1, cells := 0, slots := 0, locals := 23 }
def f_N_label (post : Int32 → SS → Prop) (σ : SS) (x1 : Int32) (x2 : Int32) : Prop := br (σ.1 24 = 0) (f_L_find_14 (fun r_2 σ_1 => post r_2 σ_1) σ (((x1.toInt64) <<< ((32 : Int32).toInt64 &&& 63)) ||| ((x2.toInt64) &&& 4294967295))) (f_L_find_17 (fun r_4 σ_3 => post r_4 σ_3) σ (((x1.toInt64) <<< ((32 : Int32).toInt64 &&& 63)) ||| ((x2.toInt64) &&& 4294967295)))
section
variable {p : Program} {l : Launch} {e : Env} {s : State} {m : MethodId} {args : Array Value} {below : List Frame} {meth : Method} {c : Code} {Q : State → Prop} {D : va_G} {cA : Nat → ClassId} {a : Nat → Nat} {ad : Nat → Nat → Nat} {A : Nat → Prop}
set_option maxHeartbeats 4000000 in
set_option maxRecDepth 100000 in
theorem e_N_label (fx : CallFix p m c b_N_label 3 s args GW RNN) {post : Int32 → SS → Prop} (HR : RetI p l e r_N_label s m args below meth c Q D vcl (tyl cA) (wC cA a) (XC ad) A b_N_label .int post) {σ : SS} {x1 : Int32} {x2 : Int32} {H : Heap} {locs : List Loc} {ls : Array Slot} (h : f_N_label post σ x1 x2) (hw : CX D vcl (tyl cA) (wC cA a σ) (XC ad) A s H locs) (hl : lv_has ls 3 [(0, .ref (a 0)), (1, .int x1), (2, .int x2)]) : W p l e r_N_label s m args below meth c H locs 0 0 Q (F0 m 0 ls []) := by
  have hx := fx.1
  have hb := fx.2.1
  unfold f_N_label at h
  refine lv_aload_n (pc := 0) hx hb d_N_label_0 rfl (lv_at hl 0 rfl) ?_
  refine gC_0_assembler (pc := 1) fx hw kw_277 d_N_label_1 ?_
  refine gC_10_latest_s (pc := 4) fx hw kw_219 d_N_label_4 (fun c9 => ?_) (fun c9 => ?_)
  · replace h := h.1 c9
    refine lv_iload_n (pc := 7) hx hb d_N_label_7 rfl (lv_at hl 1 rfl) ?_
    refine lv_i2l (pc := 8) hx hb d_N_label_8 rfl ?_
    refine lv_bipush (pc := 9) (v := 32) hx hb d_N_label_9 (by decide) ?_
    refine lv_lshl (pc := 11) hx hb d_N_label_11 rfl ?_
    refine lv_iload_n (pc := 12) hx hb d_N_label_12 rfl (lv_at hl 2 rfl) ?_
    refine lv_i2l (pc := 13) hx hb d_N_label_13 rfl ?_
    refine lv_ldc2 (pc := 14) (v := 4294967295) hx hb fx.2.2.2.1 (fx.2.2.2.2 _ kw_638) d_N_label_14 ?_
    refine lv_land (pc := 17) hx hb d_N_label_17 ?_
    refine lv_lor (pc := 18) hx hb d_N_label_18 ?_
    refine rsI (pc := 19) hw (rnV (pc := 19) xtC fx hw (c_L_find_14 h _) cw_N_135 (rcC_14 hw) rfl ⟨Nat.le_of_ble_eq_true rfl, Nat.le_of_ble_eq_true rfl⟩ hl.1 (Nat.le_of_ble_eq_true rfl) d_N_label_19 ⟨Nat.zero_le _, Nat.zero_le _⟩) (fun r_2 σ_1 H locs hw h => ?_)
    exact HR rfl d_N_label_22 h hw
  · replace h := h.2 c9
    refine lv_iload_n (pc := 7) hx hb d_N_label_7 rfl (lv_at hl 1 rfl) ?_
    refine lv_i2l (pc := 8) hx hb d_N_label_8 rfl ?_
    refine lv_bipush (pc := 9) (v := 32) hx hb d_N_label_9 (by decide) ?_
    refine lv_lshl (pc := 11) hx hb d_N_label_11 rfl ?_
    refine lv_iload_n (pc := 12) hx hb d_N_label_12 rfl (lv_at hl 2 rfl) ?_
    refine lv_i2l (pc := 13) hx hb d_N_label_13 rfl ?_
    refine lv_ldc2 (pc := 14) (v := 4294967295) hx hb fx.2.2.2.1 (fx.2.2.2.2 _ kw_638) d_N_label_14 ?_
    refine lv_land (pc := 17) hx hb d_N_label_17 ?_
    refine lv_lor (pc := 18) hx hb d_N_label_18 ?_
    refine rsI (pc := 19) hw (rnV (pc := 19) xtC fx hw (c_L_find_17 h _) cw_N_135 (rcC_17 hw) rfl ⟨Nat.le_of_ble_eq_true rfl, Nat.le_of_ble_eq_true rfl⟩ hl.1 (Nat.le_of_ble_eq_true rfl) d_N_label_19 ⟨Nat.zero_le _, Nat.zero_le _⟩) (fun r_4 σ_3 H locs hw h => ?_)
    exact HR rfl d_N_label_22 h hw
end
theorem c_N_label {l : Launch} {D : va_G} {cA : Nat → ClassId} {a : Nat → Nat} {ad : Nat → Nat → Nat} {σ : SS} {post : Int32 → SS → Prop} {x1 : Int32} {x2 : Int32} (h : f_N_label post σ x1 x2) : mI l y_N_label b_N_label 3 (some .int) 1 23 D vcl (tyl cA) (wC cA a) (XC ad) σ [.ref (a 0), .int x1, .int x2] post := met_I (by decide) (Nat.le_of_ble_eq_true rfl) (fun p e s m args below meth c A Q fx HR H ls hw hl => e_N_label  fx HR h hw hl)
