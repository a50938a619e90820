/-! the reference, walked: part 2 -/
abbrev r_R_machine : Room := { frames := 2, cells := 0, slots := 0, locals := 43 }
def f_R_machine_202 (post : Int32 → SS → Prop) (σ : SS) (x3 : Int32) : Prop := br (x3 = 2) (nm (sI σ 3 0) fun σ_1 => post 0 σ_1) (post 0 σ)
def f_R_machine_187 (post : Int32 → SS → Prop) (σ : SS) (x3 : Int32) : Prop := br (x3 = 1) (nm (sI σ 3 1) fun σ_2 => nm (sI σ_2 4 1) fun σ_3 => f_R_machine_202 post σ_3 x3) (f_R_machine_202 post σ x3)
def f_R_machine_101 (post : Int32 → SS → Prop) : Nat → SS → Int32 → Int32 → Prop
  | 0, _, _, _ => False
  | n + 1, σ, x3, x4 => br (3 ≤ x4) (nm (sI σ 5 0) fun σ_4 => f_R_machine_187 post σ_4 x3) (vp_in x4 3 ∧ nm (sA σ 4 x4.toNatClampNeg (vp_nar .boolean 0)) fun σ_5 => vp_in x4 3 ∧ nm (sA σ_5 5 x4.toNatClampNeg (vp_nar .boolean 0)) fun σ_6 => nm (x4 + 1) fun x4_7 => f_R_machine_101 post n σ_6 x3 x4_7)
def f_R_machine (post : Int32 → SS → Prop) (σ : SS) (x1 : Int32) (x2 : Int32) : Prop := nm ((x1 / 64) - (x1 / 64) / 4 * 4) fun x3_8 => nm ((x1 / 256) - (x1 / 256) / 8 * 8) fun xs_9 => br (xs_9 = (1 : Int32)) (vp_in x2 4 ∧ nm (sA σ 2 x2.toNatClampNeg (σ.1 2)) fun σ_11 => f_R_machine_187 post σ_11 x3_8) (br (xs_9 = (2 : Int32)) (f_R_machine_187 post σ x3_8) (br (xs_9 = (3 : Int32)) (f_R_asking (fun r_15 σ_14 => vp_in x2 4 ∧ nm (sA σ_14 2 x2.toNatClampNeg r_15) fun σ_16 => f_R_machine_187 post σ_16 x3_8) σ) (br (xs_9 = (4 : Int32)) (vp_in x2 4 ∧ nm (sI σ 5 ((σ.2.1 2 x2.toNatClampNeg) - (σ.2.1 2 x2.toNatClampNeg) / 8 * 8)) fun σ_18 => f_R_machine_187 post σ_18 x3_8) (br (xs_9 = (5 : Int32)) (∃ n9, f_R_machine_101 post n9 σ x3_8 0) (br (xs_9 = (6 : Int32)) (nm (sI σ 11 1) fun σ_21 => f_R_machine_187 post σ_21 x3_8) (br (xs_9 = (7 : Int32)) (br (x3_8 = 0) (bz (σ.1 3) ∧ post (σ.1 3) σ) (br (x3_8 = 1) (br ((σ.1 3) = 0) (post 1 σ) (post 0 σ)) (br (x3_8 = 3) (post 1 σ) (post 0 σ)))) (f_R_machine_187 post σ x3_8)))))))
section
variable {p : Program} {l : Launch} {e : Env} {s : State} {m : MethodId} {args : Array Value} {below : List Frame} {meth : Method} {c : Code} {Q : State → Prop} {D : va_G} {cA : Nat → ClassId} {a : Nat → Nat} {X : (Nat → Prop) → State → Prop} {A : Nat → Prop}
set_option maxHeartbeats 4000000 in
set_option maxRecDepth 100000 in
theorem c_R_machine_202 (hX : XT X) (fx : CallFix p m c b_R_machine 5 s args GW RNR) {post : Int32 → SS → Prop} (HR : RetI p l e r_R_machine s m args below meth c Q D vcl (tyl cA) (wR cA a) X A b_R_machine .boolean (fun r σ => bz r ∧ post r σ)) {σ : SS} {x3 : Int32} {H : Heap} {locs : List Loc} {ls : Array Slot} (h : f_R_machine_202 post σ x3) (hw : CX D vcl (tyl cA) (wR cA a σ) X A s H locs) (hl : lv_has ls 5 [(0, .ref (a 0)), (3, .int x3)]) : W p l e r_R_machine s m args below meth c H locs 0 0 Q (F0 m 202 ls []) := by
  have hx := fx.1
  have hb := fx.2.1
  unfold f_R_machine_202 at h
  refine lv_iload_n (pc := 202) hx hb d_R_machine_202 rfl (lv_at hl 1 rfl) ?_
  refine lv_iconst (pc := 203) (v := 2) hx hb d_R_machine_203 (by decide) ?_
  refine lv_icmp_ne (pc := 204) (tgt := 212) hx hb d_R_machine_204 (by decide) (fun c9 => ?_) (fun c9 => ?_)
  · replace h := h.2 c9
    refine lv_iconst (pc := 212) (v := 0) hx hb d_R_machine_212 (by decide) ?_
    exact HR (bz_n bz_0) d_R_machine_213 ⟨bz_0, h⟩ hw
  · replace h := h.1 c9
    refine lv_aload_n (pc := 207) hx hb d_R_machine_207 rfl (lv_at hl 0 rfl) ?_
    refine lv_iconst (pc := 208) (v := 0) hx hb d_R_machine_208 (by decide) ?_
    refine pR_0_ion (pc := 209) fx hw kw_1072 bz_0 d_R_machine_209 (fun σ_1 e9 H locs hw => ?_)
    replace h := nm_u h e9
    clear e9
    refine lv_iconst (pc := 212) (v := 0) hx hb d_R_machine_212 (by decide) ?_
    exact HR (bz_n bz_0) d_R_machine_213 ⟨bz_0, h⟩ hw
set_option maxHeartbeats 4000000 in
set_option maxRecDepth 100000 in
theorem c_R_machine_187 (hX : XT X) (fx : CallFix p m c b_R_machine 5 s args GW RNR) {post : Int32 → SS → Prop} (HR : RetI p l e r_R_machine s m args below meth c Q D vcl (tyl cA) (wR cA a) X A b_R_machine .boolean (fun r σ => bz r ∧ post r σ)) {σ : SS} {x3 : Int32} {H : Heap} {locs : List Loc} {ls : Array Slot} (h : f_R_machine_187 post σ x3) (hw : CX D vcl (tyl cA) (wR cA a σ) X A s H locs) (hl : lv_has ls 5 [(0, .ref (a 0)), (3, .int x3)]) : W p l e r_R_machine s m args below meth c H locs 0 0 Q (F0 m 187 ls []) := by
  have hx := fx.1
  have hb := fx.2.1
  unfold f_R_machine_187 at h
  refine lv_iload_n (pc := 187) hx hb d_R_machine_187 rfl (lv_at hl 1 rfl) ?_
  refine lv_iconst (pc := 188) (v := 1) hx hb d_R_machine_188 (by decide) ?_
  refine lv_icmp_ne (pc := 189) (tgt := 202) hx hb d_R_machine_189 (by decide) (fun c9 => ?_) (fun c9 => ?_)
  · replace h := h.2 c9
    exact c_R_machine_202 hX fx HR h hw (lv_sub hl [0, 1] rfl)
  · replace h := h.1 c9
    refine lv_aload_n (pc := 192) hx hb d_R_machine_192 rfl (lv_at hl 0 rfl) ?_
    refine lv_iconst (pc := 193) (v := 1) hx hb d_R_machine_193 (by decide) ?_
    refine pR_0_ion (pc := 194) fx hw kw_1072 bz_1 d_R_machine_194 (fun σ_2 e9 H locs hw => ?_)
    replace h := nm_u h e9
    clear e9
    refine lv_aload_n (pc := 197) hx hb d_R_machine_197 rfl (lv_at hl 0 rfl) ?_
    refine lv_iconst (pc := 198) (v := 1) hx hb d_R_machine_198 (by decide) ?_
    refine pR_0_justIon (pc := 199) fx hw kw_1073 bz_1 d_R_machine_199 (fun σ_3 e9 H locs hw => ?_)
    replace h := nm_u h e9
    clear e9
    exact c_R_machine_202 hX fx HR h hw (lv_sub hl [0, 1] rfl)
set_option maxHeartbeats 4000000 in
set_option maxRecDepth 100000 in
theorem c_R_machine_101 (hX : XT X) (fx : CallFix p m c b_R_machine 5 s args GW RNR) {post : Int32 → SS → Prop} (HR : RetI p l e r_R_machine s m args below meth c Q D vcl (tyl cA) (wR cA a) X A b_R_machine .boolean (fun r σ => bz r ∧ post r σ)) : ∀ (n : Nat) {σ : SS} {x3 : Int32} {x4 : Int32} {H : Heap} {locs : List Loc} {ls : Array Slot}, f_R_machine_101 post n σ x3 x4 → CX D vcl (tyl cA) (wR cA a σ) X A s H locs → lv_has ls 5 [(0, .ref (a 0)), (3, .int x3), (4, .int x4)] → W p l e r_R_machine s m args below meth c H locs 0 0 Q (F0 m 101 ls []) := by
  have hx := fx.1
  have hb := fx.2.1
  intro n
  induction n with
  | zero => intro σ x3 x4 H locs ls h; exact h.elim
  | succ n ih =>
    intro σ x3 x4 H locs ls h hw hl
    have K101 := @ih
    unfold f_R_machine_101 at h
    refine lv_iload (pc := 101) hx hb d_R_machine_101 (lv_at hl 2 rfl) ?_
    refine lv_iconst (pc := 103) (v := 3) hx hb d_R_machine_103 (by decide) ?_
    refine lv_icmp_ge (pc := 104) (tgt := 129) hx hb d_R_machine_104 (by decide) (fun c9 => ?_) (fun c9 => ?_)
    · replace h := h.1 c9
      refine lv_aload_n (pc := 129) hx hb d_R_machine_129 rfl (lv_at hl 0 rfl) ?_
      refine lv_iconst (pc := 130) (v := 0) hx hb d_R_machine_130 (by decide) ?_
      refine pR_0_mask (pc := 131) fx hw kw_1074 d_R_machine_131 (fun σ_4 e9 H locs hw => ?_)
      replace h := nm_u h e9
      clear e9
      refine lv_goto (pc := 134) (tgt := 187) hx hb d_R_machine_134 (by decide) ?_
      exact c_R_machine_187 hX fx HR h hw (lv_sub hl [0, 1] rfl)
    · replace h := h.2 c9
      refine lv_aload_n (pc := 107) hx hb d_R_machine_107 rfl (lv_at hl 0 rfl) ?_
      refine gR_0_busy (pc := 108) fx hw kw_1079 d_R_machine_108 ?_
      refine lv_iload (pc := 111) hx hb d_R_machine_111 (lv_at hl 2 rfl) ?_
      refine lv_iconst (pc := 113) (v := 0) hx hb d_R_machine_113 (by decide) ?_
      refine asR_4 (pc := 114) fx hw h.1 d_R_machine_114 (fun σ_5 e9 H locs hw => ?_)
      replace h := nm_u h.2 e9
      clear e9
      refine lv_aload_n (pc := 115) hx hb d_R_machine_115 rfl (lv_at hl 0 rfl) ?_
      refine gR_0_ready (pc := 116) fx hw kw_1080 d_R_machine_116 ?_
      refine lv_iload (pc := 119) hx hb d_R_machine_119 (lv_at hl 2 rfl) ?_
      refine lv_iconst (pc := 121) (v := 0) hx hb d_R_machine_121 (by decide) ?_
      refine asR_5 (pc := 122) fx hw h.1 d_R_machine_122 (fun σ_6 e9 H locs hw => ?_)
      replace h := nm_u h.2 e9
      clear e9
      obtain ⟨x4_7, e9⟩ : ∃ z : Int32, z = x4 + 1 := ⟨_, rfl⟩
      replace h := nm_u h e9
      refine lv_iinc (pc := 123) (v := x4_7) (lv' := [(4, .int x4_7), (0, .ref (a 0)), (3, .int x3)]) hx hb d_R_machine_123 hl (k := 2) rfl (by rw [e9]; rfl) (by decide) rfl (fun ls hl => ?_)
      clear e9
      refine lv_goto (pc := 126) (tgt := 101) hx hb d_R_machine_126 (by decide) ?_
      exact K101 h hw (lv_sub hl [1, 2, 0] rfl)
set_option maxHeartbeats 4000000 in
set_option maxRecDepth 100000 in
theorem e_R_machine (hX : XT X) (fx : CallFix p m c b_R_machine 5 s args GW RNR) {post : Int32 → SS → Prop} (HR : RetI p l e r_R_machine s m args below meth c Q D vcl (tyl cA) (wR cA a) X A b_R_machine .boolean (fun r σ => bz r ∧ post r σ)) {σ : SS} {x1 : Int32} {x2 : Int32} {H : Heap} {locs : List Loc} {ls : Array Slot} (h : f_R_machine post σ x1 x2) (hw : CX D vcl (tyl cA) (wR cA a σ) X A s H locs) (hl : lv_has ls 5 [(0, .ref (a 0)), (1, .int x1), (2, .int x2)]) : W p l e r_R_machine s m args below meth c H locs 0 0 Q (F0 m 0 ls []) := by
  have hx := fx.1
  have hb := fx.2.1
  unfold f_R_machine at h
  refine lv_iload_n (pc := 0) hx hb d_R_machine_0 rfl (lv_at hl 1 rfl) ?_
  refine lv_bipush (pc := 1) (v := 64) hx hb d_R_machine_1 (by decide) ?_
  refine lv_idiv (pc := 3) hx hb d_R_machine_3 (by decide) ?_
  refine lv_iconst (pc := 4) (v := 4) hx hb d_R_machine_4 (by decide) ?_
  refine lv_irem (pc := 5) hx hb d_R_machine_5 (by decide) ?_
  refine lv_topi (fun x3_8 e9 => ?_)
  replace h := nm_u h e9
  clear e9
  refine lv_istore_n (pc := 6) (lv' := [(3, .int x3_8), (0, .ref (a 0)), (1, .int x1), (2, .int x2)]) hx hb d_R_machine_6 rfl hl (by decide) rfl (fun ls hl => ?_)
  refine lv_iload_n (pc := 7) hx hb d_R_machine_7 rfl (lv_at hl 2 rfl) ?_
  refine lv_sipush (pc := 8) (v := 256) hx hb d_R_machine_8 (by decide) ?_
  refine lv_idiv (pc := 11) hx hb d_R_machine_11 (by decide) ?_
  refine lv_bipush (pc := 12) (v := 8) hx hb d_R_machine_12 (by decide) ?_
  refine lv_irem (pc := 14) hx hb d_R_machine_14 (by decide) ?_
  refine lv_topi (fun xs_9 e9 => ?_)
  replace h := nm_u h e9
  clear e9
  by_cases cq_10 : xs_9 = (1 : Int32)
  · replace h := h.1 cq_10
    refine lv_tableIn (pc := 15) (off := 41) (tgt := 56) hx hb d_R_machine_15 (by rw [cq_10]; decide) (by rw [cq_10]; decide) (by rw [cq_10]; rfl) (by decide) ?_
    refine lv_aload_n (pc := 56) hx hb d_R_machine_56 rfl (lv_at hl 1 rfl) ?_
    refine gR_0_accumulators (pc := 57) fx hw kw_1068 d_R_machine_57 ?_
    refine lv_iload_n (pc := 60) hx hb d_R_machine_60 rfl (lv_at hl 3 rfl) ?_
    refine lv_aload_n (pc := 61) hx hb d_R_machine_61 rfl (lv_at hl 1 rfl) ?_
    refine gR_0_switches (pc := 62) fx hw kw_1071 d_R_machine_62 ?_
    refine asR_2 (pc := 65) fx hw h.1 d_R_machine_65 (fun σ_11 e9 H locs hw => ?_)
    replace h := nm_u h.2 e9
    clear e9
    refine lv_goto (pc := 66) (tgt := 187) hx hb d_R_machine_66 (by decide) ?_
    exact c_R_machine_187 hX fx HR h hw (lv_sub hl [1, 0] rfl)
  replace h := h.2 cq_10
  by_cases cq_12 : xs_9 = (2 : Int32)
  · replace h := h.1 cq_12
    refine lv_tableIn (pc := 15) (off := 172) (tgt := 187) hx hb d_R_machine_15 (by rw [cq_12]; decide) (by rw [cq_12]; decide) (by rw [cq_12]; rfl) (by decide) ?_
    exact c_R_machine_187 hX fx HR h hw (lv_sub hl [1, 0] rfl)
  replace h := h.2 cq_12
  by_cases cq_13 : xs_9 = (3 : Int32)
  · replace h := h.1 cq_13
    refine lv_tableIn (pc := 15) (off := 54) (tgt := 69) hx hb d_R_machine_15 (by rw [cq_13]; decide) (by rw [cq_13]; decide) (by rw [cq_13]; rfl) (by decide) ?_
    refine lv_aload_n (pc := 69) hx hb d_R_machine_69 rfl (lv_at hl 1 rfl) ?_
    refine gR_0_accumulators (pc := 70) fx hw kw_1068 d_R_machine_70 ?_
    refine lv_iload_n (pc := 73) hx hb d_R_machine_73 rfl (lv_at hl 3 rfl) ?_
    refine lv_aload_n (pc := 74) hx hb d_R_machine_74 rfl (lv_at hl 1 rfl) ?_
    refine cxI (pc := 75) hX fx hw (c_R_asking hX h) cw_R_146 (rcR_0 hw) rfl ⟨Nat.le_of_ble_eq_true rfl, Nat.le_of_ble_eq_true rfl⟩ hl.1 (Nat.le_of_ble_eq_true rfl) d_R_machine_75 ⟨Nat.zero_le _, Nat.zero_le _⟩ (fun r_15 σ_14 H locs hw h => ?_)
    refine asR_2 (pc := 78) fx hw h.1 d_R_machine_78 (fun σ_16 e9 H locs hw => ?_)
    replace h := nm_u h.2 e9
    clear e9
    refine lv_goto (pc := 79) (tgt := 187) hx hb d_R_machine_79 (by decide) ?_
    exact c_R_machine_187 hX fx HR h hw (lv_sub hl [1, 0] rfl)
  replace h := h.2 cq_13
  by_cases cq_17 : xs_9 = (4 : Int32)
  · replace h := h.1 cq_17
    refine lv_tableIn (pc := 15) (off := 67) (tgt := 82) hx hb d_R_machine_15 (by rw [cq_17]; decide) (by rw [cq_17]; decide) (by rw [cq_17]; rfl) (by decide) ?_
    refine lv_aload_n (pc := 82) hx hb d_R_machine_82 rfl (lv_at hl 1 rfl) ?_
    refine lv_aload_n (pc := 83) hx hb d_R_machine_83 rfl (lv_at hl 1 rfl) ?_
    refine gR_0_accumulators (pc := 84) fx hw kw_1068 d_R_machine_84 ?_
    refine lv_iload_n (pc := 87) hx hb d_R_machine_87 rfl (lv_at hl 3 rfl) ?_
    refine alR_2 (pc := 88) fx hw h.1 d_R_machine_88 ?_
    replace h := h.2
    refine lv_bipush (pc := 89) (v := 8) hx hb d_R_machine_89 (by decide) ?_
    refine lv_irem (pc := 91) hx hb d_R_machine_91 (by decide) ?_
    refine pR_0_mask (pc := 92) fx hw kw_1074 d_R_machine_92 (fun σ_18 e9 H locs hw => ?_)
    replace h := nm_u h e9
    clear e9
    refine lv_goto (pc := 95) (tgt := 187) hx hb d_R_machine_95 (by decide) ?_
    exact c_R_machine_187 hX fx HR h hw (lv_sub hl [1, 0] rfl)
  replace h := h.2 cq_17
  by_cases cq_19 : xs_9 = (5 : Int32)
  · replace h := h.1 cq_19
    refine lv_tableIn (pc := 15) (off := 83) (tgt := 98) hx hb d_R_machine_15 (by rw [cq_19]; decide) (by rw [cq_19]; decide) (by rw [cq_19]; rfl) (by decide) ?_
    refine lv_iconst (pc := 98) (v := 0) hx hb d_R_machine_98 (by decide) ?_
    refine lv_istore (pc := 99) (lv' := [(4, .int 0), (3, .int x3_8), (0, .ref (a 0)), (1, .int x1), (2, .int x2)]) hx hb d_R_machine_99 hl (by decide) rfl (fun ls hl => ?_)
    obtain ⟨n9, h⟩ := h
    exact c_R_machine_101 hX fx HR n9 h hw (lv_sub hl [2, 1, 0] rfl)
  replace h := h.2 cq_19
  by_cases cq_20 : xs_9 = (6 : Int32)
  · replace h := h.1 cq_20
    refine lv_tableIn (pc := 15) (off := 122) (tgt := 137) hx hb d_R_machine_15 (by rw [cq_20]; decide) (by rw [cq_20]; decide) (by rw [cq_20]; rfl) (by decide) ?_
    refine lv_aload_n (pc := 137) hx hb d_R_machine_137 rfl (lv_at hl 1 rfl) ?_
    refine lv_iconst (pc := 138) (v := 1) hx hb d_R_machine_138 (by decide) ?_
    refine pR_0_why (pc := 139) fx hw kw_1086 d_R_machine_139 (fun σ_21 e9 H locs hw => ?_)
    replace h := nm_u h e9
    clear e9
    refine lv_goto (pc := 142) (tgt := 187) hx hb d_R_machine_142 (by decide) ?_
    exact c_R_machine_187 hX fx HR h hw (lv_sub hl [1, 0] rfl)
  replace h := h.2 cq_20
  by_cases cq_22 : xs_9 = (7 : Int32)
  · replace h := h.1 cq_22
    refine lv_tableIn (pc := 15) (off := 130) (tgt := 145) hx hb d_R_machine_15 (by rw [cq_22]; decide) (by rw [cq_22]; decide) (by rw [cq_22]; rfl) (by decide) ?_
    refine lv_iload_n (pc := 145) hx hb d_R_machine_145 rfl (lv_at hl 0 rfl) ?_
    refine lv_if_ne (pc := 146) (tgt := 156) hx hb d_R_machine_146 (by decide) (fun c9 => ?_) (fun c9 => ?_)
    · replace h := h.2 c9
      refine lv_iload_n (pc := 156) hx hb d_R_machine_156 rfl (lv_at hl 0 rfl) ?_
      refine lv_iconst (pc := 157) (v := 1) hx hb d_R_machine_157 (by decide) ?_
      refine lv_icmp_ne (pc := 158) (tgt := 176) hx hb d_R_machine_158 (by decide) (fun c9 => ?_) (fun c9 => ?_)
      · replace h := h.2 c9
        refine lv_iload_n (pc := 176) hx hb d_R_machine_176 rfl (lv_at hl 0 rfl) ?_
        refine lv_iconst (pc := 177) (v := 3) hx hb d_R_machine_177 (by decide) ?_
        refine lv_icmp_ne (pc := 178) (tgt := 185) hx hb d_R_machine_178 (by decide) (fun c9 => ?_) (fun c9 => ?_)
        · replace h := h.2 c9
          refine lv_iconst (pc := 185) (v := 0) hx hb d_R_machine_185 (by decide) ?_
          exact HR (bz_n bz_0) d_R_machine_186 ⟨bz_0, h⟩ hw
        · replace h := h.1 c9
          refine lv_iconst (pc := 181) (v := 1) hx hb d_R_machine_181 (by decide) ?_
          refine lv_goto (pc := 182) (tgt := 186) hx hb d_R_machine_182 (by decide) ?_
          exact HR (bz_n bz_1) d_R_machine_186 ⟨bz_1, h⟩ hw
      · replace h := h.1 c9
        refine lv_aload_n (pc := 161) hx hb d_R_machine_161 rfl (lv_at hl 1 rfl) ?_
        refine gR_0_ion (pc := 162) fx hw kw_1072 d_R_machine_162 ?_
        refine lv_if_ne (pc := 165) (tgt := 172) hx hb d_R_machine_165 (by decide) (fun c9 => ?_) (fun c9 => ?_)
        · replace h := h.2 c9
          refine lv_iconst (pc := 172) (v := 0) hx hb d_R_machine_172 (by decide) ?_
          refine lv_goto (pc := 173) (tgt := 186) hx hb d_R_machine_173 (by decide) ?_
          exact HR (bz_n bz_0) d_R_machine_186 ⟨bz_0, h⟩ hw
        · replace h := h.1 c9
          refine lv_iconst (pc := 168) (v := 1) hx hb d_R_machine_168 (by decide) ?_
          refine lv_goto (pc := 169) (tgt := 186) hx hb d_R_machine_169 (by decide) ?_
          exact HR (bz_n bz_1) d_R_machine_186 ⟨bz_1, h⟩ hw
    · replace h := h.1 c9
      refine lv_aload_n (pc := 149) hx hb d_R_machine_149 rfl (lv_at hl 1 rfl) ?_
      refine gR_0_ion (pc := 150) fx hw kw_1072 d_R_machine_150 ?_
      refine lv_goto (pc := 153) (tgt := 186) hx hb d_R_machine_153 (by decide) ?_
      exact HR (bz_n h.1) d_R_machine_186 h hw
  replace h := h.2 cq_22
  refine lv_tableOut (pc := 15) (tgt := 187) hx hb d_R_machine_15 (by have := lv_neT cq_10 (a := 1) (by decide); have := lv_neT cq_12 (a := 2) (by decide); have := lv_neT cq_13 (a := 3) (by decide); have := lv_neT cq_17 (a := 4) (by decide); have := lv_neT cq_19 (a := 5) (by decide); have := lv_neT cq_20 (a := 6) (by decide); have := lv_neT cq_22 (a := 7) (by decide); omega) (by decide) ?_
  exact c_R_machine_187 hX fx HR h hw (lv_sub hl [1, 0] rfl)
end
theorem c_R_machine {l : Launch} {D : va_G} {cA : Nat → ClassId} {a : Nat → Nat} {X : (Nat → Prop) → State → Prop} (hX : XT X) {σ : SS} {post : Int32 → SS → Prop} {x1 : Int32} {x2 : Int32} (h : f_R_machine post σ x1 x2) : mI l y_R_machine b_R_machine 5 (some .boolean) 2 43 D vcl (tyl cA) (wR cA a) X σ [.ref (a 0), .int x1, .int x2] (fun r σ => bz r ∧ post r σ) := met_I (by decide) (Nat.le_of_ble_eq_true rfl) (fun p e s m args below meth c A Q fx HR H ls hw hl => e_R_machine hX fx HR h hw hl)
abbrev r_R_devices : Room := { frames := 3, cells := 0, slots := 0, locals := 67 }
def f_R_devices_229 (post : Int32 → SS → Prop) (σ : SS) (x3 : Int32) (s0 : Int32) (s1 : Int32) : Prop := vp_in s1 3 ∧ nm (sA σ 4 s1.toNatClampNeg (vp_nar .boolean s0)) fun σ_1 => vp_in (x3 - 8) 3 ∧ nm (sA σ_1 5 (x3 - 8).toNatClampNeg (vp_nar .boolean 0)) fun σ_2 => vp_in (x3 - 8) 3 ∧ nm (sA σ_2 6 (x3 - 8).toNatClampNeg 0) fun σ_3 => post 0 σ_3
def f_R_devices_210 (post : Int32 → SS → Prop) (σ : SS) (x3 : Int32) (x5 : Int32) : Prop := br (x5 = 1) (f_R_devices_229 post σ x3 1 (x3 - 8)) (f_R_devices_229 post σ x3 0 (x3 - 8))
def f_R_devices_193 (post : Int32 → SS → Prop) (σ : SS) (x3 : Int32) (x5 : Int32) (x6 : Int32) : Prop := br (x6 = 0) (post 0 σ) (br (x5 = 1) (f_R_devices_210 post σ x3 x5) (br (x5 = 2) (f_R_devices_210 post σ x3 x5) (post 0 σ)))
def f_R_devices_165 (post : Int32 → SS → Prop) (σ : SS) (x2 : Int32) (x3 : Int32) (x4 : Int32) (x5 : Int32) (x6 : Int32) : Prop := br (x4 = 2) (br (x3 = 9) (vp_in x2 4 ∧ vp_in (1 : Int32) 3 ∧ nm (sA σ 3 (1 : Int32).toNatClampNeg ((σ.2.1 2 x2.toNatClampNeg) - (σ.2.1 2 x2.toNatClampNeg) / 256 * 256)) fun σ_4 => f_R_devices_193 post σ_4 x3 x5 x6) (f_R_devices_193 post σ x3 x5 x6)) (f_R_devices_193 post σ x3 x5 x6)
def f_R_devices_164 (post : Int32 → SS → Prop) (σ : SS) (x2 : Int32) (x3 : Int32) (x4 : Int32) (x5 : Int32) (x6 : Int32) (s0 : Int32) (s1 : Int32) : Prop := vp_in s1 4 ∧ nm (sA σ 2 s1.toNatClampNeg s0) fun σ_5 => f_R_devices_165 post σ_5 x2 x3 x4 x5 x6
def f_R_devices_118 (post : Int32 → SS → Prop) (σ : SS) (x7 : Int32) (s0 : Int32) : Prop := br (s0 = x7) (post 1 σ) (post 0 σ)
def f_R_devices_104 (post : Int32 → SS → Prop) (σ : SS) (x5 : Int32) (s0 : Int32) : Prop := br ((x5 - x5 / 2 * 2) = 0) (f_R_devices_118 post σ s0 1) (f_R_devices_118 post σ s0 0)
def f_R_devices (post : Int32 → SS → Prop) (σ : SS) (x1 : Int32) : Prop := nm ((x1 / 2048) - (x1 / 2048) / 4 * 4) fun x2_6 => nm (x1 - x1 / 64 * 64) fun x3_7 => br (x3_7 = 63) (f_R_machine (fun r_13 σ_12 => post r_13 σ_12) σ x1 x2_6) (nm ((x1 / 256) - (x1 / 256) / 8 * 8) fun x4_8 => nm ((x1 / 64) - (x1 / 64) / 4 * 4) fun x5_9 => f_R_within (fun r_11 σ_10 => br (x4_8 = 7) (br (r_11 = 0) (f_R_devices_104 post σ_10 x5_9 0) (br (2 ≤ x5_9) (vp_in (x3_7 - 8) 3 ∧ br ((σ_10.2.1 5 (x3_7 - 8).toNatClampNeg) = 0) (f_R_devices_104 post σ_10 x5_9 0) (f_R_devices_104 post σ_10 x5_9 1)) (vp_in (x3_7 - 8) 3 ∧ br ((σ_10.2.1 4 (x3_7 - 8).toNatClampNeg) = 0) (f_R_devices_104 post σ_10 x5_9 0) (f_R_devices_104 post σ_10 x5_9 1)))) (br ((x4_8 - x4_8 / 2 * 2) = 1) (br (x3_7 = 8) (br (x4_8 = 1) (vp_in (0 : Int32) 3 ∧ f_R_devices_164 post σ_10 x2_6 x3_7 x4_8 x5_9 r_11 (σ_10.2.1 3 (0 : Int32).toNatClampNeg) x2_6) (f_R_devices_164 post σ_10 x2_6 x3_7 x4_8 x5_9 r_11 0 x2_6)) (f_R_devices_164 post σ_10 x2_6 x3_7 x4_8 x5_9 r_11 0 x2_6)) (f_R_devices_165 post σ_10 x2_6 x3_7 x4_8 x5_9 r_11))) σ x3_7 8 10)
section
variable {p : Program} {l : Launch} {e : Env} {s : State} {m : MethodId} {args : Array Value} {below : List Frame} {meth : Method} {c : Code} {Q : State → Prop} {D : va_G} {cA : Nat → ClassId} {a : Nat → Nat} {X : (Nat → Prop) → State → Prop} {A : Nat → Prop}
set_option maxHeartbeats 4000000 in
set_option maxRecDepth 100000 in
theorem c_R_devices_229 (hX : XT X) (fx : CallFix p m c b_R_devices 8 s args GW RNR) {post : Int32 → SS → Prop} (HR : RetI p l e r_R_devices s m args below meth c Q D vcl (tyl cA) (wR cA a) X A b_R_devices .boolean (fun r σ => bz r ∧ post r σ)) {σ : SS} {x3 : Int32} {s0 : Int32} {s1 : Int32} {H : Heap} {locs : List Loc} {ls : Array Slot} (h : f_R_devices_229 post σ x3 s0 s1) (hw : CX D vcl (tyl cA) (wR cA a σ) X A s H locs) (hl : lv_has ls 8 [(0, .ref (a 0)), (3, .int x3)]) : W p l e r_R_devices s m args below meth c H locs 0 0 Q (F0 m 229 ls [.int s0, .int s1, .ref (a 4)]) := by
  have hx := fx.1
  have hb := fx.2.1
  unfold f_R_devices_229 at h
  refine asR_4 (pc := 229) fx hw h.1 d_R_devices_229 (fun σ_1 e9 H locs hw => ?_)
  replace h := nm_u h.2 e9
  clear e9
  refine lv_aload_n (pc := 230) hx hb d_R_devices_230 rfl (lv_at hl 0 rfl) ?_
  refine gR_0_ready (pc := 231) fx hw kw_1080 d_R_devices_231 ?_
  refine lv_iload_n (pc := 234) hx hb d_R_devices_234 rfl (lv_at hl 1 rfl) ?_
  refine lv_bipush (pc := 235) (v := 8) hx hb d_R_devices_235 (by decide) ?_
  refine lv_isub (pc := 237) hx hb d_R_devices_237 ?_
  refine lv_iconst (pc := 238) (v := 0) hx hb d_R_devices_238 (by decide) ?_
  refine asR_5 (pc := 239) fx hw h.1 d_R_devices_239 (fun σ_2 e9 H locs hw => ?_)
  replace h := nm_u h.2 e9
  clear e9
  refine lv_aload_n (pc := 240) hx hb d_R_devices_240 rfl (lv_at hl 0 rfl) ?_
  refine gR_0_ticks (pc := 241) fx hw kw_1081 d_R_devices_241 ?_
  refine lv_iload_n (pc := 244) hx hb d_R_devices_244 rfl (lv_at hl 1 rfl) ?_
  refine lv_bipush (pc := 245) (v := 8) hx hb d_R_devices_245 (by decide) ?_
  refine lv_isub (pc := 247) hx hb d_R_devices_247 ?_
  refine lv_iconst (pc := 248) (v := 0) hx hb d_R_devices_248 (by decide) ?_
  refine asR_6 (pc := 249) fx hw h.1 d_R_devices_249 (fun σ_3 e9 H locs hw => ?_)
  replace h := nm_u h.2 e9
  clear e9
  refine lv_iconst (pc := 250) (v := 0) hx hb d_R_devices_250 (by decide) ?_
  exact HR (bz_n bz_0) d_R_devices_251 ⟨bz_0, h⟩ hw
set_option maxHeartbeats 4000000 in
set_option maxRecDepth 100000 in
theorem c_R_devices_210 (hX : XT X) (fx : CallFix p m c b_R_devices 8 s args GW RNR) {post : Int32 → SS → Prop} (HR : RetI p l e r_R_devices s m args below meth c Q D vcl (tyl cA) (wR cA a) X A b_R_devices .boolean (fun r σ => bz r ∧ post r σ)) {σ : SS} {x3 : Int32} {x5 : Int32} {H : Heap} {locs : List Loc} {ls : Array Slot} (h : f_R_devices_210 post σ x3 x5) (hw : CX D vcl (tyl cA) (wR cA a σ) X A s H locs) (hl : lv_has ls 8 [(0, .ref (a 0)), (3, .int x3), (5, .int x5)]) : W p l e r_R_devices s m args below meth c H locs 0 0 Q (F0 m 210 ls []) := by
  have hx := fx.1
  have hb := fx.2.1
  unfold f_R_devices_210 at h
  refine lv_aload_n (pc := 210) hx hb d_R_devices_210 rfl (lv_at hl 0 rfl) ?_
  refine gR_0_busy (pc := 211) fx hw kw_1079 d_R_devices_211 ?_
  refine lv_iload_n (pc := 214) hx hb d_R_devices_214 rfl (lv_at hl 1 rfl) ?_
  refine lv_bipush (pc := 215) (v := 8) hx hb d_R_devices_215 (by decide) ?_
  refine lv_isub (pc := 217) hx hb d_R_devices_217 ?_
  refine lv_iload (pc := 218) hx hb d_R_devices_218 (lv_at hl 2 rfl) ?_
  refine lv_iconst (pc := 220) (v := 1) hx hb d_R_devices_220 (by decide) ?_
  refine lv_icmp_ne (pc := 221) (tgt := 228) hx hb d_R_devices_221 (by decide) (fun c9 => ?_) (fun c9 => ?_)
  · replace h := h.2 c9
    refine lv_iconst (pc := 228) (v := 0) hx hb d_R_devices_228 (by decide) ?_
    exact c_R_devices_229 hX fx HR h hw (lv_sub hl [0, 1] rfl)
  · replace h := h.1 c9
    refine lv_iconst (pc := 224) (v := 1) hx hb d_R_devices_224 (by decide) ?_
    refine lv_goto (pc := 225) (tgt := 229) hx hb d_R_devices_225 (by decide) ?_
    exact c_R_devices_229 hX fx HR h hw (lv_sub hl [0, 1] rfl)
set_option maxHeartbeats 4000000 in
set_option maxRecDepth 100000 in
theorem c_R_devices_193 (hX : XT X) (fx : CallFix p m c b_R_devices 8 s args GW RNR) {post : Int32 → SS → Prop} (HR : RetI p l e r_R_devices s m args below meth c Q D vcl (tyl cA) (wR cA a) X A b_R_devices .boolean (fun r σ => bz r ∧ post r σ)) {σ : SS} {x3 : Int32} {x5 : Int32} {x6 : Int32} {H : Heap} {locs : List Loc} {ls : Array Slot} (h : f_R_devices_193 post σ x3 x5 x6) (hw : CX D vcl (tyl cA) (wR cA a σ) X A s H locs) (hl : lv_has ls 8 [(0, .ref (a 0)), (3, .int x3), (5, .int x5), (6, .int x6)]) : W p l e r_R_devices s m args below meth c H locs 0 0 Q (F0 m 193 ls []) := by
  have hx := fx.1
  have hb := fx.2.1
  unfold f_R_devices_193 at h
  refine lv_iload (pc := 193) hx hb d_R_devices_193 (lv_at hl 3 rfl) ?_
  refine lv_if_eq (pc := 195) (tgt := 250) hx hb d_R_devices_195 (by decide) (fun c9 => ?_) (fun c9 => ?_)
  · replace h := h.1 c9
    refine lv_iconst (pc := 250) (v := 0) hx hb d_R_devices_250 (by decide) ?_
    exact HR (bz_n bz_0) d_R_devices_251 ⟨bz_0, h⟩ hw
  · replace h := h.2 c9
    refine lv_iload (pc := 198) hx hb d_R_devices_198 (lv_at hl 2 rfl) ?_
    refine lv_iconst (pc := 200) (v := 1) hx hb d_R_devices_200 (by decide) ?_
    refine lv_icmp_eq (pc := 201) (tgt := 210) hx hb d_R_devices_201 (by decide) (fun c9 => ?_) (fun c9 => ?_)
    · replace h := h.1 c9
      exact c_R_devices_210 hX fx HR h hw (lv_sub hl [0, 1, 2] rfl)
    · replace h := h.2 c9
      refine lv_iload (pc := 204) hx hb d_R_devices_204 (lv_at hl 2 rfl) ?_
      refine lv_iconst (pc := 206) (v := 2) hx hb d_R_devices_206 (by decide) ?_
      refine lv_icmp_ne (pc := 207) (tgt := 250) hx hb d_R_devices_207 (by decide) (fun c9 => ?_) (fun c9 => ?_)
      · replace h := h.2 c9
        refine lv_iconst (pc := 250) (v := 0) hx hb d_R_devices_250 (by decide) ?_
        exact HR (bz_n bz_0) d_R_devices_251 ⟨bz_0, h⟩ hw
      · replace h := h.1 c9
        exact c_R_devices_210 hX fx HR h hw (lv_sub hl [0, 1, 2] rfl)
set_option maxHeartbeats 4000000 in
set_option maxRecDepth 100000 in
theorem c_R_devices_165 (hX : XT X) (fx : CallFix p m c b_R_devices 8 s args GW RNR) {post : Int32 → SS → Prop} (HR : RetI p l e r_R_devices s m args below meth c Q D vcl (tyl cA) (wR cA a) X A b_R_devices .boolean (fun r σ => bz r ∧ post r σ)) {σ : SS} {x2 : Int32} {x3 : Int32} {x4 : Int32} {x5 : Int32} {x6 : Int32} {H : Heap} {locs : List Loc} {ls : Array Slot} (h : f_R_devices_165 post σ x2 x3 x4 x5 x6) (hw : CX D vcl (tyl cA) (wR cA a σ) X A s H locs) (hl : lv_has ls 8 [(0, .ref (a 0)), (2, .int x2), (3, .int x3), (4, .int x4), (5, .int x5), (6, .int x6)]) : W p l e r_R_devices s m args below meth c H locs 0 0 Q (F0 m 165 ls []) := by
  have hx := fx.1
  have hb := fx.2.1
  unfold f_R_devices_165 at h
  refine lv_iload (pc := 165) hx hb d_R_devices_165 (lv_at hl 3 rfl) ?_
  refine lv_iconst (pc := 167) (v := 2) hx hb d_R_devices_167 (by decide) ?_
  refine lv_icmp_ne (pc := 168) (tgt := 193) hx hb d_R_devices_168 (by decide) (fun c9 => ?_) (fun c9 => ?_)
  · replace h := h.2 c9
    exact c_R_devices_193 hX fx HR h hw (lv_sub hl [0, 2, 4, 5] rfl)
  · replace h := h.1 c9
    refine lv_iload_n (pc := 171) hx hb d_R_devices_171 rfl (lv_at hl 2 rfl) ?_
    refine lv_bipush (pc := 172) (v := 9) hx hb d_R_devices_172 (by decide) ?_
    refine lv_icmp_ne (pc := 174) (tgt := 193) hx hb d_R_devices_174 (by decide) (fun c9 => ?_) (fun c9 => ?_)
    · replace h := h.2 c9
      exact c_R_devices_193 hX fx HR h hw (lv_sub hl [0, 2, 4, 5] rfl)
    · replace h := h.1 c9
      refine lv_aload_n (pc := 177) hx hb d_R_devices_177 rfl (lv_at hl 0 rfl) ?_
      refine gR_0_words (pc := 178) fx hw kw_1078 d_R_devices_178 ?_
      refine lv_iconst (pc := 181) (v := 1) hx hb d_R_devices_181 (by decide) ?_
      refine lv_aload_n (pc := 182) hx hb d_R_devices_182 rfl (lv_at hl 0 rfl) ?_
      refine gR_0_accumulators (pc := 183) fx hw kw_1068 d_R_devices_183 ?_
      refine lv_iload_n (pc := 186) hx hb d_R_devices_186 rfl (lv_at hl 1 rfl) ?_
      refine alR_2 (pc := 187) fx hw h.1 d_R_devices_187 ?_
      replace h := h.2
      refine lv_sipush (pc := 188) (v := 256) hx hb d_R_devices_188 (by decide) ?_
      refine lv_irem (pc := 191) hx hb d_R_devices_191 (by decide) ?_
      refine asR_3 (pc := 192) fx hw h.1 d_R_devices_192 (fun σ_4 e9 H locs hw => ?_)
      replace h := nm_u h.2 e9
      clear e9
      exact c_R_devices_193 hX fx HR h hw (lv_sub hl [0, 2, 4, 5] rfl)
set_option maxHeartbeats 4000000 in
set_option maxRecDepth 100000 in
theorem c_R_devices_164 (hX : XT X) (fx : CallFix p m c b_R_devices 8 s args GW RNR) {post : Int32 → SS → Prop} (HR : RetI p l e r_R_devices s m args below meth c Q D vcl (tyl cA) (wR cA a) X A b_R_devices .boolean (fun r σ => bz r ∧ post r σ)) {σ : SS} {x2 : Int32} {x3 : Int32} {x4 : Int32} {x5 : Int32} {x6 : Int32} {s0 : Int32} {s1 : Int32} {H : Heap} {locs : List Loc} {ls : Array Slot} (h : f_R_devices_164 post σ x2 x3 x4 x5 x6 s0 s1) (hw : CX D vcl (tyl cA) (wR cA a σ) X A s H locs) (hl : lv_has ls 8 [(0, .ref (a 0)), (2, .int x2), (3, .int x3), (4, .int x4), (5, .int x5), (6, .int x6)]) : W p l e r_R_devices s m args below meth c H locs 0 0 Q (F0 m 164 ls [.int s0, .int s1, .ref (a 2)]) := by
  have hx := fx.1
  have hb := fx.2.1
  unfold f_R_devices_164 at h
  refine asR_2 (pc := 164) fx hw h.1 d_R_devices_164 (fun σ_5 e9 H locs hw => ?_)
  replace h := nm_u h.2 e9
  clear e9
  exact c_R_devices_165 hX fx HR h hw (lv_sub hl [0, 1, 2, 3, 4, 5] rfl)
set_option maxHeartbeats 4000000 in
set_option maxRecDepth 100000 in
theorem c_R_devices_118 (hX : XT X) (fx : CallFix p m c b_R_devices 8 s args GW RNR) {post : Int32 → SS → Prop} (HR : RetI p l e r_R_devices s m args below meth c Q D vcl (tyl cA) (wR cA a) X A b_R_devices .boolean (fun r σ => bz r ∧ post r σ)) {σ : SS} {x7 : Int32} {s0 : Int32} {H : Heap} {locs : List Loc} {ls : Array Slot} (h : f_R_devices_118 post σ x7 s0) (hw : CX D vcl (tyl cA) (wR cA a σ) X A s H locs) (hl : lv_has ls 8 [(7, .int x7)]) : W p l e r_R_devices s m args below meth c H locs 0 0 Q (F0 m 118 ls [.int s0]) := by
  have hx := fx.1
  have hb := fx.2.1
  unfold f_R_devices_118 at h
  refine lv_iload (pc := 118) hx hb d_R_devices_118 (lv_at hl 0 rfl) ?_
  refine lv_icmp_ne (pc := 120) (tgt := 127) hx hb d_R_devices_120 (by decide) (fun c9 => ?_) (fun c9 => ?_)
  · replace h := h.2 c9
    refine lv_iconst (pc := 127) (v := 0) hx hb d_R_devices_127 (by decide) ?_
    exact HR (bz_n bz_0) d_R_devices_128 ⟨bz_0, h⟩ hw
  · replace h := h.1 c9
    refine lv_iconst (pc := 123) (v := 1) hx hb d_R_devices_123 (by decide) ?_
    refine lv_goto (pc := 124) (tgt := 128) hx hb d_R_devices_124 (by decide) ?_
    exact HR (bz_n bz_1) d_R_devices_128 ⟨bz_1, h⟩ hw
set_option maxHeartbeats 4000000 in
set_option maxRecDepth 100000 in
theorem c_R_devices_104 (hX : XT X) (fx : CallFix p m c b_R_devices 8 s args GW RNR) {post : Int32 → SS → Prop} (HR : RetI p l e r_R_devices s m args below meth c Q D vcl (tyl cA) (wR cA a) X A b_R_devices .boolean (fun r σ => bz r ∧ post r σ)) {σ : SS} {x5 : Int32} {s0 : Int32} {H : Heap} {locs : List Loc} {ls : Array Slot} (h : f_R_devices_104 post σ x5 s0) (hw : CX D vcl (tyl cA) (wR cA a σ) X A s H locs) (hl : lv_has ls 8 [(5, .int x5)]) : W p l e r_R_devices s m args below meth c H locs 0 0 Q (F0 m 104 ls [.int s0]) := by
  have hx := fx.1
  have hb := fx.2.1
  unfold f_R_devices_104 at h
  refine lv_istore (pc := 104) (lv' := [(7, .int s0), (5, .int x5)]) hx hb d_R_devices_104 hl (by decide) rfl (fun ls hl => ?_)
  refine lv_iload (pc := 106) hx hb d_R_devices_106 (lv_at hl 1 rfl) ?_
  refine lv_iconst (pc := 108) (v := 2) hx hb d_R_devices_108 (by decide) ?_
  refine lv_irem (pc := 109) hx hb d_R_devices_109 (by decide) ?_
  refine lv_if_ne (pc := 110) (tgt := 117) hx hb d_R_devices_110 (by decide) (fun c9 => ?_) (fun c9 => ?_)
  · replace h := h.2 c9
    refine lv_iconst (pc := 117) (v := 0) hx hb d_R_devices_117 (by decide) ?_
    exact c_R_devices_118 hX fx HR h hw (lv_sub hl [0] rfl)
  · replace h := h.1 c9
    refine lv_iconst (pc := 113) (v := 1) hx hb d_R_devices_113 (by decide) ?_
    refine lv_goto (pc := 114) (tgt := 118) hx hb d_R_devices_114 (by decide) ?_
    exact c_R_devices_118 hX fx HR h hw (lv_sub hl [0] rfl)
set_option maxHeartbeats 4000000 in
set_option maxRecDepth 100000 in
theorem e_R_devices (hX : XT X) (fx : CallFix p m c b_R_devices 8 s args GW RNR) {post : Int32 → SS → Prop} (HR : RetI p l e r_R_devices s m args below meth c Q D vcl (tyl cA) (wR cA a) X A b_R_devices .boolean (fun r σ => bz r ∧ post r σ)) {σ : SS} {x1 : Int32} {H : Heap} {locs : List Loc} {ls : Array Slot} (h : f_R_devices post σ x1) (hw : CX D vcl (tyl cA) (wR cA a σ) X A s H locs) (hl : lv_has ls 8 [(0, .ref (a 0)), (1, .int x1)]) : W p l e r_R_devices s m args below meth c H locs 0 0 Q (F0 m 0 ls []) := by
  have hx := fx.1
  have hb := fx.2.1
  unfold f_R_devices at h
  refine lv_iload_n (pc := 0) hx hb d_R_devices_0 rfl (lv_at hl 1 rfl) ?_
  refine lv_sipush (pc := 1) (v := 2048) hx hb d_R_devices_1 (by decide) ?_
  refine lv_idiv (pc := 4) hx hb d_R_devices_4 (by decide) ?_
  refine lv_iconst (pc := 5) (v := 4) hx hb d_R_devices_5 (by decide) ?_
  refine lv_irem (pc := 6) hx hb d_R_devices_6 (by decide) ?_
  refine lv_topi (fun x2_6 e9 => ?_)
  replace h := nm_u h e9
  clear e9
  refine lv_istore_n (pc := 7) (lv' := [(2, .int x2_6), (0, .ref (a 0)), (1, .int x1)]) hx hb d_R_devices_7 rfl hl (by decide) rfl (fun ls hl => ?_)
  refine lv_iload_n (pc := 8) hx hb d_R_devices_8 rfl (lv_at hl 2 rfl) ?_
  refine lv_bipush (pc := 9) (v := 64) hx hb d_R_devices_9 (by decide) ?_
  refine lv_irem (pc := 11) hx hb d_R_devices_11 (by decide) ?_
  refine lv_topi (fun x3_7 e9 => ?_)
  replace h := nm_u h e9
  clear e9
  refine lv_istore_n (pc := 12) (lv' := [(3, .int x3_7), (2, .int x2_6), (0, .ref (a 0)), (1, .int x1)]) hx hb d_R_devices_12 rfl hl (by decide) rfl (fun ls hl => ?_)
  refine lv_iload_n (pc := 13) hx hb d_R_devices_13 rfl (lv_at hl 0 rfl) ?_
  refine lv_bipush (pc := 14) (v := 63) hx hb d_R_devices_14 (by decide) ?_
  refine lv_icmp_ne (pc := 16) (tgt := 26) hx hb d_R_devices_16 (by decide) (fun c9 => ?_) (fun c9 => ?_)
  · replace h := h.2 c9
    refine lv_iload_n (pc := 26) hx hb d_R_devices_26 rfl (lv_at hl 3 rfl) ?_
    refine lv_sipush (pc := 27) (v := 256) hx hb d_R_devices_27 (by decide) ?_
    refine lv_idiv (pc := 30) hx hb d_R_devices_30 (by decide) ?_
    refine lv_bipush (pc := 31) (v := 8) hx hb d_R_devices_31 (by decide) ?_
    refine lv_irem (pc := 33) hx hb d_R_devices_33 (by decide) ?_
    refine lv_topi (fun x4_8 e9 => ?_)
    replace h := nm_u h e9
    clear e9
    refine lv_istore (pc := 34) (lv' := [(4, .int x4_8), (3, .int x3_7), (2, .int x2_6), (0, .ref (a 0)), (1, .int x1)]) hx hb d_R_devices_34 hl (by decide) rfl (fun ls hl => ?_)
    refine lv_iload_n (pc := 36) hx hb d_R_devices_36 rfl (lv_at hl 4 rfl) ?_
    refine lv_bipush (pc := 37) (v := 64) hx hb d_R_devices_37 (by decide) ?_
    refine lv_idiv (pc := 39) hx hb d_R_devices_39 (by decide) ?_
    refine lv_iconst (pc := 40) (v := 4) hx hb d_R_devices_40 (by decide) ?_
    refine lv_irem (pc := 41) hx hb d_R_devices_41 (by decide) ?_
    refine lv_topi (fun x5_9 e9 => ?_)
    replace h := nm_u h e9
    clear e9
    refine lv_istore (pc := 42) (lv' := [(5, .int x5_9), (4, .int x4_8), (3, .int x3_7), (2, .int x2_6), (0, .ref (a 0)), (1, .int x1)]) hx hb d_R_devices_42 hl (by decide) rfl (fun ls hl => ?_)
    refine lv_iload_n (pc := 44) hx hb d_R_devices_44 rfl (lv_at hl 2 rfl) ?_
    refine lv_bipush (pc := 45) (v := 8) hx hb d_R_devices_45 (by decide) ?_
    refine lv_bipush (pc := 47) (v := 10) hx hb d_R_devices_47 (by decide) ?_
    refine cxSI (pc := 49) hX fx hw (c_R_within hX h) cw_R_72 rfl ⟨Nat.le_of_ble_eq_true rfl, Nat.le_of_ble_eq_true rfl⟩ hl.1 (Nat.le_of_ble_eq_true rfl) d_R_devices_49 ⟨Nat.zero_le _, Nat.zero_le _⟩ (fun r_11 σ_10 H locs hw h => ?_)
    have zr_11 := h.1
    replace h := h.2
    refine lv_istore (pc := 52) (lv' := [(6, .int r_11), (5, .int x5_9), (4, .int x4_8), (3, .int x3_7), (2, .int x2_6), (0, .ref (a 0)), (1, .int x1)]) hx hb d_R_devices_52 hl (by decide) rfl (fun ls hl => ?_)
    refine lv_iload (pc := 54) hx hb d_R_devices_54 (lv_at hl 2 rfl) ?_
    refine lv_bipush (pc := 56) (v := 7) hx hb d_R_devices_56 (by decide) ?_
    refine lv_icmp_ne (pc := 58) (tgt := 129) hx hb d_R_devices_58 (by decide) (fun c9 => ?_) (fun c9 => ?_)
    · replace h := h.2 c9
      refine lv_iload (pc := 129) hx hb d_R_devices_129 (lv_at hl 2 rfl) ?_
      refine lv_iconst (pc := 131) (v := 2) hx hb d_R_devices_131 (by decide) ?_
      refine lv_irem (pc := 132) hx hb d_R_devices_132 (by decide) ?_
      refine lv_iconst (pc := 133) (v := 1) hx hb d_R_devices_133 (by decide) ?_
      refine lv_icmp_ne (pc := 134) (tgt := 165) hx hb d_R_devices_134 (by decide) (fun c9 => ?_) (fun c9 => ?_)
      · replace h := h.2 c9
        exact c_R_devices_165 hX fx HR h hw (lv_sub hl [5, 4, 3, 2, 1, 0] rfl)
      · replace h := h.1 c9
        refine lv_aload_n (pc := 137) hx hb d_R_devices_137 rfl (lv_at hl 5 rfl) ?_
        refine gR_0_accumulators (pc := 138) fx hw kw_1068 d_R_devices_138 ?_
        refine lv_iload_n (pc := 141) hx hb d_R_devices_141 rfl (lv_at hl 4 rfl) ?_
        refine lv_iload_n (pc := 142) hx hb d_R_devices_142 rfl (lv_at hl 3 rfl) ?_
        refine lv_bipush (pc := 143) (v := 8) hx hb d_R_devices_143 (by decide) ?_
        refine lv_icmp_ne (pc := 145) (tgt := 163) hx hb d_R_devices_145 (by decide) (fun c9 => ?_) (fun c9 => ?_)
        · replace h := h.2 c9
          refine lv_iconst (pc := 163) (v := 0) hx hb d_R_devices_163 (by decide) ?_
          exact c_R_devices_164 hX fx HR h hw (lv_sub hl [5, 4, 3, 2, 1, 0] rfl)
        · replace h := h.1 c9
          refine lv_iload (pc := 148) hx hb d_R_devices_148 (lv_at hl 2 rfl) ?_
          refine lv_iconst (pc := 150) (v := 1) hx hb d_R_devices_150 (by decide) ?_
          refine lv_icmp_ne (pc := 151) (tgt := 163) hx hb d_R_devices_151 (by decide) (fun c9 => ?_) (fun c9 => ?_)
          · replace h := h.2 c9
            refine lv_iconst (pc := 163) (v := 0) hx hb d_R_devices_163 (by decide) ?_
            exact c_R_devices_164 hX fx HR h hw (lv_sub hl [5, 4, 3, 2, 1, 0] rfl)
          · replace h := h.1 c9
            refine lv_aload_n (pc := 154) hx hb d_R_devices_154 rfl (lv_at hl 5 rfl) ?_
            refine gR_0_words (pc := 155) fx hw kw_1078 d_R_devices_155 ?_
            refine lv_iconst (pc := 158) (v := 0) hx hb d_R_devices_158 (by decide) ?_
            refine alR_3 (pc := 159) fx hw h.1 d_R_devices_159 ?_
            replace h := h.2
            refine lv_goto (pc := 160) (tgt := 164) hx hb d_R_devices_160 (by decide) ?_
            exact c_R_devices_164 hX fx HR h hw (lv_sub hl [5, 4, 3, 2, 1, 0] rfl)
    · replace h := h.1 c9
      refine lv_iload (pc := 61) hx hb d_R_devices_61 (lv_at hl 0 rfl) ?_
      refine lv_if_eq (pc := 63) (tgt := 103) hx hb d_R_devices_63 (by decide) (fun c9 => ?_) (fun c9 => ?_)
      · replace h := h.1 c9
        refine lv_iconst (pc := 103) (v := 0) hx hb d_R_devices_103 (by decide) ?_
        exact c_R_devices_104 hX fx HR h hw (lv_sub hl [1] rfl)
      · replace h := h.2 c9
        refine lv_iload (pc := 66) hx hb d_R_devices_66 (lv_at hl 1 rfl) ?_
        refine lv_iconst (pc := 68) (v := 2) hx hb d_R_devices_68 (by decide) ?_
        refine lv_icmp_ge (pc := 69) (tgt := 87) hx hb d_R_devices_69 (by decide) (fun c9 => ?_) (fun c9 => ?_)
        · replace h := h.1 c9
          refine lv_aload_n (pc := 87) hx hb d_R_devices_87 rfl (lv_at hl 5 rfl) ?_
          refine gR_0_ready (pc := 88) fx hw kw_1080 d_R_devices_88 ?_
          refine lv_iload_n (pc := 91) hx hb d_R_devices_91 rfl (lv_at hl 3 rfl) ?_
          refine lv_bipush (pc := 92) (v := 8) hx hb d_R_devices_92 (by decide) ?_
          refine lv_isub (pc := 94) hx hb d_R_devices_94 ?_
          refine alR_5 (pc := 95) fx hw h.1 d_R_devices_95 ?_
          replace h := h.2
          refine lv_if_eq (pc := 96) (tgt := 103) hx hb d_R_devices_96 (by decide) (fun c9 => ?_) (fun c9 => ?_)
          · replace h := h.1 c9
            refine lv_iconst (pc := 103) (v := 0) hx hb d_R_devices_103 (by decide) ?_
            exact c_R_devices_104 hX fx HR h hw (lv_sub hl [1] rfl)
          · replace h := h.2 c9
            refine lv_iconst (pc := 99) (v := 1) hx hb d_R_devices_99 (by decide) ?_
            refine lv_goto (pc := 100) (tgt := 104) hx hb d_R_devices_100 (by decide) ?_
            exact c_R_devices_104 hX fx HR h hw (lv_sub hl [1] rfl)
        · replace h := h.2 c9
          refine lv_aload_n (pc := 72) hx hb d_R_devices_72 rfl (lv_at hl 5 rfl) ?_
          refine gR_0_busy (pc := 73) fx hw kw_1079 d_R_devices_73 ?_
          refine lv_iload_n (pc := 76) hx hb d_R_devices_76 rfl (lv_at hl 3 rfl) ?_
          refine lv_bipush (pc := 77) (v := 8) hx hb d_R_devices_77 (by decide) ?_
          refine lv_isub (pc := 79) hx hb d_R_devices_79 ?_
          refine alR_4 (pc := 80) fx hw h.1 d_R_devices_80 ?_
          replace h := h.2
          refine lv_if_eq (pc := 81) (tgt := 103) hx hb d_R_devices_81 (by decide) (fun c9 => ?_) (fun c9 => ?_)
          · replace h := h.1 c9
            refine lv_iconst (pc := 103) (v := 0) hx hb d_R_devices_103 (by decide) ?_
            exact c_R_devices_104 hX fx HR h hw (lv_sub hl [1] rfl)
          · replace h := h.2 c9
            refine lv_goto (pc := 84) (tgt := 99) hx hb d_R_devices_84 (by decide) ?_
            refine lv_iconst (pc := 99) (v := 1) hx hb d_R_devices_99 (by decide) ?_
            refine lv_goto (pc := 100) (tgt := 104) hx hb d_R_devices_100 (by decide) ?_
            exact c_R_devices_104 hX fx HR h hw (lv_sub hl [1] rfl)
  · replace h := h.1 c9
    refine lv_aload_n (pc := 19) hx hb d_R_devices_19 rfl (lv_at hl 2 rfl) ?_
    refine lv_iload_n (pc := 20) hx hb d_R_devices_20 rfl (lv_at hl 3 rfl) ?_
    refine lv_iload_n (pc := 21) hx hb d_R_devices_21 rfl (lv_at hl 1 rfl) ?_
    refine cxI (pc := 22) hX fx hw (c_R_machine hX h) cw_R_150 (rcR_0 hw) rfl ⟨Nat.le_of_ble_eq_true rfl, Nat.le_of_ble_eq_true rfl⟩ hl.1 (Nat.le_of_ble_eq_true rfl) d_R_devices_22 ⟨Nat.zero_le _, Nat.zero_le _⟩ (fun r_13 σ_12 H locs hw h => ?_)
    have zr_13 := h.1
    replace h := h.2
    exact HR (bz_n zr_13) d_R_devices_25 ⟨zr_13, h⟩ hw
end
theorem c_R_devices {l : Launch} {D : va_G} {cA : Nat → ClassId} {a : Nat → Nat} {X : (Nat → Prop) → State → Prop} (hX : XT X) {σ : SS} {post : Int32 → SS → Prop} {x1 : Int32} (h : f_R_devices post σ x1) : mI l y_R_devices b_R_devices 8 (some .boolean) 3 67 D vcl (tyl cA) (wR cA a) X σ [.ref (a 0), .int x1] (fun r σ => bz r ∧ post r σ) := met_I (by decide) (Nat.le_of_ble_eq_true rfl) (fun p e s m args below meth c A Q fx HR H ls hw hl => e_R_devices hX fx HR h hw hl)
abbrev r_R_tick : Room := { frames := 0, cells := 0, slots := 0, locals := 0 }
def f_R_tick_173 (post : SS → Prop) (k2 : SS → Int32 → Prop) (σ : SS) (x1 : Int32) : Prop := nm (x1 + 1) fun x1_1 => k2 σ x1_1
def f_R_tick_159 (post : SS → Prop) (k2 : SS → Int32 → Prop) (σ : SS) (x1 : Int32) : Prop := vp_in x1 3 ∧ nm (sA σ 4 x1.toNatClampNeg (vp_nar .boolean 0)) fun σ_2 => vp_in x1 3 ∧ nm (sA σ_2 5 x1.toNatClampNeg (vp_nar .boolean 1)) fun σ_3 => f_R_tick_173 post k2 σ_3 x1
def f_R_tick_149 (post : SS → Prop) (k2 : SS → Int32 → Prop) (σ : SS) (x1 : Int32) : Prop := nm (sI σ 10 ((σ.1 10) + 1)) fun σ_4 => f_R_tick_159 post k2 σ_4 x1
def f_R_tick_119 (post : SS → Prop) (k2 : SS → Int32 → Prop) (σ : SS) (x1 : Int32) : Prop := br (x1 = 1) (br (1000 ≤ (σ.1 10)) (f_R_tick_149 post k2 σ x1) (vp_in (1 : Int32) 3 ∧ vp_in (σ.1 10) 1000 ∧ nm (sA σ 8 (σ.1 10).toNatClampNeg (σ.2.1 3 (1 : Int32).toNatClampNeg)) fun σ_5 => f_R_tick_149 post k2 σ_5 x1)) (f_R_tick_159 post k2 σ x1)
def f_R_tick_91 (post : SS → Prop) (k2 : SS → Int32 → Prop) : Nat → SS → Int32 → Int32 → Prop
  | 0, _, _, _ => False
  | n + 1, σ, x1, x2 => br ((σ.1 9) ≤ x2) (f_R_tick_119 post k2 σ x1) (vp_in (x2 + 1) 500 ∧ vp_in x2 500 ∧ nm (sA σ 7 x2.toNatClampNeg (σ.2.1 7 (x2 + 1).toNatClampNeg)) fun σ_6 => nm (x2 + 1) fun x2_7 => f_R_tick_91 post k2 n σ_6 x1 x2_7)
def f_R_tick_63 (post : SS → Prop) (k2 : SS → Int32 → Prop) (σ : SS) (x1 : Int32) : Prop := br (x1 = 0) (vp_in (0 : Int32) 500 ∧ vp_in (0 : Int32) 3 ∧ nm (sA σ 3 (0 : Int32).toNatClampNeg (σ.2.1 7 (0 : Int32).toNatClampNeg)) fun σ_8 => nm (sI σ_8 9 ((σ_8.1 9) - 1)) fun σ_9 => ∃ n9, f_R_tick_91 post k2 n9 σ_9 x1 0) (f_R_tick_119 post k2 σ x1)
def f_R_tick_46 (post : SS → Prop) (k2 : SS → Int32 → Prop) (σ : SS) (x1 : Int32) (s0 : Int32) (s1 : Int32) : Prop := br (s1 < s0) (f_R_tick_173 post k2 σ x1) (br (x1 = 0) (br ((σ.1 9) = 0) (f_R_tick_173 post k2 σ x1) (f_R_tick_63 post k2 σ x1)) (f_R_tick_63 post k2 σ x1))
def f_R_tick_2 (post : SS → Prop) : Nat → SS → Int32 → Prop
  | 0, _, _ => False
  | n + 1, σ, x1 => br (3 ≤ x1) (post σ) (vp_in x1 3 ∧ br ((σ.2.1 4 x1.toNatClampNeg) = 0) (f_R_tick_173 post (f_R_tick_2 post n) σ x1) (vp_in x1 3 ∧ vp_in x1 3 ∧ nm (sA σ 6 x1.toNatClampNeg ((σ.2.1 6 x1.toNatClampNeg) + 1)) fun σ_10 => vp_in x1 3 ∧ br (x1 = 2) (f_R_tick_46 post (f_R_tick_2 post n) σ_10 x1 20 (σ_10.2.1 6 x1.toNatClampNeg)) (f_R_tick_46 post (f_R_tick_2 post n) σ_10 x1 4 (σ_10.2.1 6 x1.toNatClampNeg))))
def f_R_tick (post : SS → Prop) (σ : SS) : Prop := ∃ n9, f_R_tick_2 post n9 σ 0
section
variable {p : Program} {l : Launch} {e : Env} {s : State} {m : MethodId} {args : Array Value} {below : List Frame} {meth : Method} {c : Code} {Q : State → Prop} {D : va_G} {cA : Nat → ClassId} {a : Nat → Nat} {X : (Nat → Prop) → State → Prop} {A : Nat → Prop}
set_option maxHeartbeats 4000000 in
set_option maxRecDepth 100000 in
theorem c_R_tick_173 (hX : XT X) (fx : CallFix p m c b_R_tick 3 s args GW RNR) {post : SS → Prop} (HR : RetV p l e r_R_tick s m args below meth c Q D vcl (tyl cA) (wR cA a) X A b_R_tick post) {k2 : SS → Int32 → Prop} (K2 : ∀ {σ : SS} {x1 : Int32} {H : Heap} {locs : List Loc} {ls : Array Slot}, k2 σ x1 → CX D vcl (tyl cA) (wR cA a σ) X A s H locs → lv_has ls 3 [(0, .ref (a 0)), (1, .int x1)] → W p l e r_R_tick s m args below meth c H locs 0 0 Q (F0 m 2 ls [])) {σ : SS} {x1 : Int32} {H : Heap} {locs : List Loc} {ls : Array Slot} (h : f_R_tick_173 post k2 σ x1) (hw : CX D vcl (tyl cA) (wR cA a σ) X A s H locs) (hl : lv_has ls 3 [(0, .ref (a 0)), (1, .int x1)]) : W p l e r_R_tick s m args below meth c H locs 0 0 Q (F0 m 173 ls []) := by
  have hx := fx.1
  have hb := fx.2.1
  unfold f_R_tick_173 at h
  obtain ⟨x1_1, e9⟩ : ∃ z : Int32, z = x1 + 1 := ⟨_, rfl⟩
  replace h := nm_u h e9
  refine lv_iinc (pc := 173) (v := x1_1) (lv' := [(1, .int x1_1), (0, .ref (a 0))]) hx hb d_R_tick_173 hl (k := 1) rfl (by rw [e9]; rfl) (by decide) rfl (fun ls hl => ?_)
  clear e9
  refine lv_goto (pc := 176) (tgt := 2) hx hb d_R_tick_176 (by decide) ?_
  exact K2 h hw (lv_sub hl [1, 0] rfl)
set_option maxHeartbeats 4000000 in
set_option maxRecDepth 100000 in
theorem c_R_tick_159 (hX : XT X) (fx : CallFix p m c b_R_tick 3 s args GW RNR) {post : SS → Prop} (HR : RetV p l e r_R_tick s m args below meth c Q D vcl (tyl cA) (wR cA a) X A b_R_tick post) {k2 : SS → Int32 → Prop} (K2 : ∀ {σ : SS} {x1 : Int32} {H : Heap} {locs : List Loc} {ls : Array Slot}, k2 σ x1 → CX D vcl (tyl cA) (wR cA a σ) X A s H locs → lv_has ls 3 [(0, .ref (a 0)), (1, .int x1)] → W p l e r_R_tick s m args below meth c H locs 0 0 Q (F0 m 2 ls [])) {σ : SS} {x1 : Int32} {H : Heap} {locs : List Loc} {ls : Array Slot} (h : f_R_tick_159 post k2 σ x1) (hw : CX D vcl (tyl cA) (wR cA a σ) X A s H locs) (hl : lv_has ls 3 [(0, .ref (a 0)), (1, .int x1)]) : W p l e r_R_tick s m args below meth c H locs 0 0 Q (F0 m 159 ls []) := by
  have hx := fx.1
  have hb := fx.2.1
  unfold f_R_tick_159 at h
  refine lv_aload_n (pc := 159) hx hb d_R_tick_159 rfl (lv_at hl 0 rfl) ?_
  refine gR_0_busy (pc := 160) fx hw kw_1079 d_R_tick_160 ?_
  refine lv_iload_n (pc := 163) hx hb d_R_tick_163 rfl (lv_at hl 1 rfl) ?_
  refine lv_iconst (pc := 164) (v := 0) hx hb d_R_tick_164 (by decide) ?_
  refine asR_4 (pc := 165) fx hw h.1 d_R_tick_165 (fun σ_2 e9 H locs hw => ?_)
  replace h := nm_u h.2 e9
  clear e9
  refine lv_aload_n (pc := 166) hx hb d_R_tick_166 rfl (lv_at hl 0 rfl) ?_
  refine gR_0_ready (pc := 167) fx hw kw_1080 d_R_tick_167 ?_
  refine lv_iload_n (pc := 170) hx hb d_R_tick_170 rfl (lv_at hl 1 rfl) ?_
  refine lv_iconst (pc := 171) (v := 1) hx hb d_R_tick_171 (by decide) ?_
  refine asR_5 (pc := 172) fx hw h.1 d_R_tick_172 (fun σ_3 e9 H locs hw => ?_)
  replace h := nm_u h.2 e9
  clear e9
  exact c_R_tick_173 hX fx HR K2 h hw (lv_sub hl [0, 1] rfl)
set_option maxHeartbeats 4000000 in
set_option maxRecDepth 100000 in
theorem c_R_tick_149 (hX : XT X) (fx : CallFix p m c b_R_tick 3 s args GW RNR) {post : SS → Prop} (HR : RetV p l e r_R_tick s m args below meth c Q D vcl (tyl cA) (wR cA a) X A b_R_tick post) {k2 : SS → Int32 → Prop} (K2 : ∀ {σ : SS} {x1 : Int32} {H : Heap} {locs : List Loc} {ls : Array Slot}, k2 σ x1 → CX D vcl (tyl cA) (wR cA a σ) X A s H locs → lv_has ls 3 [(0, .ref (a 0)), (1, .int x1)] → W p l e r_R_tick s m args below meth c H locs 0 0 Q (F0 m 2 ls [])) {σ : SS} {x1 : Int32} {H : Heap} {locs : List Loc} {ls : Array Slot} (h : f_R_tick_149 post k2 σ x1) (hw : CX D vcl (tyl cA) (wR cA a σ) X A s H locs) (hl : lv_has ls 3 [(0, .ref (a 0)), (1, .int x1)]) : W p l e r_R_tick s m args below meth c H locs 0 0 Q (F0 m 149 ls []) := by
  have hx := fx.1
  have hb := fx.2.1
  unfold f_R_tick_149 at h
  refine lv_aload_n (pc := 149) hx hb d_R_tick_149 rfl (lv_at hl 0 rfl) ?_
  refine lv_dup (pc := 150) hx hb d_R_tick_150 rfl ?_
  refine gR_0_sheetSize (pc := 151) fx hw kw_1085 d_R_tick_151 ?_
  refine lv_iconst (pc := 154) (v := 1) hx hb d_R_tick_154 (by decide) ?_
  refine lv_iadd (pc := 155) hx hb d_R_tick_155 ?_
  refine pR_0_sheetSize (pc := 156) fx hw kw_1085 d_R_tick_156 (fun σ_4 e9 H locs hw => ?_)
  replace h := nm_u h e9
  clear e9
  exact c_R_tick_159 hX fx HR K2 h hw (lv_sub hl [0, 1] rfl)
set_option maxHeartbeats 4000000 in
set_option maxRecDepth 100000 in
theorem c_R_tick_119 (hX : XT X) (fx : CallFix p m c b_R_tick 3 s args GW RNR) {post : SS → Prop} (HR : RetV p l e r_R_tick s m args below meth c Q D vcl (tyl cA) (wR cA a) X A b_R_tick post) {k2 : SS → Int32 → Prop} (K2 : ∀ {σ : SS} {x1 : Int32} {H : Heap} {locs : List Loc} {ls : Array Slot}, k2 σ x1 → CX D vcl (tyl cA) (wR cA a σ) X A s H locs → lv_has ls 3 [(0, .ref (a 0)), (1, .int x1)] → W p l e r_R_tick s m args below meth c H locs 0 0 Q (F0 m 2 ls [])) {σ : SS} {x1 : Int32} {H : Heap} {locs : List Loc} {ls : Array Slot} (h : f_R_tick_119 post k2 σ x1) (hw : CX D vcl (tyl cA) (wR cA a σ) X A s H locs) (hl : lv_has ls 3 [(0, .ref (a 0)), (1, .int x1)]) : W p l e r_R_tick s m args below meth c H locs 0 0 Q (F0 m 119 ls []) := by
  have hx := fx.1
  have hb := fx.2.1
  unfold f_R_tick_119 at h
  refine lv_iload_n (pc := 119) hx hb d_R_tick_119 rfl (lv_at hl 1 rfl) ?_
  refine lv_iconst (pc := 120) (v := 1) hx hb d_R_tick_120 (by decide) ?_
  refine lv_icmp_ne (pc := 121) (tgt := 159) hx hb d_R_tick_121 (by decide) (fun c9 => ?_) (fun c9 => ?_)
  · replace h := h.2 c9
    exact c_R_tick_159 hX fx HR K2 h hw (lv_sub hl [0, 1] rfl)
  · replace h := h.1 c9
    refine lv_aload_n (pc := 124) hx hb d_R_tick_124 rfl (lv_at hl 0 rfl) ?_
    refine gR_0_sheetSize (pc := 125) fx hw kw_1085 d_R_tick_125 ?_
    refine lv_sipush (pc := 128) (v := 1000) hx hb d_R_tick_128 (by decide) ?_
    refine lv_icmp_ge (pc := 131) (tgt := 149) hx hb d_R_tick_131 (by decide) (fun c9 => ?_) (fun c9 => ?_)
    · replace h := h.1 c9
      exact c_R_tick_149 hX fx HR K2 h hw (lv_sub hl [0, 1] rfl)
    · replace h := h.2 c9
      refine lv_aload_n (pc := 134) hx hb d_R_tick_134 rfl (lv_at hl 0 rfl) ?_
      refine gR_0_sheet (pc := 135) fx hw kw_1084 d_R_tick_135 ?_
      refine lv_aload_n (pc := 138) hx hb d_R_tick_138 rfl (lv_at hl 0 rfl) ?_
      refine gR_0_sheetSize (pc := 139) fx hw kw_1085 d_R_tick_139 ?_
      refine lv_aload_n (pc := 142) hx hb d_R_tick_142 rfl (lv_at hl 0 rfl) ?_
      refine gR_0_words (pc := 143) fx hw kw_1078 d_R_tick_143 ?_
      refine lv_iconst (pc := 146) (v := 1) hx hb d_R_tick_146 (by decide) ?_
      refine alR_3 (pc := 147) fx hw h.1 d_R_tick_147 ?_
      replace h := h.2
      refine asR_8 (pc := 148) fx hw h.1 d_R_tick_148 (fun σ_5 e9 H locs hw => ?_)
      replace h := nm_u h.2 e9
      clear e9
      exact c_R_tick_149 hX fx HR K2 h hw (lv_sub hl [0, 1] rfl)
set_option maxHeartbeats 4000000 in
set_option maxRecDepth 100000 in
theorem c_R_tick_91 (hX : XT X) (fx : CallFix p m c b_R_tick 3 s args GW RNR) {post : SS → Prop} (HR : RetV p l e r_R_tick s m args below meth c Q D vcl (tyl cA) (wR cA a) X A b_R_tick post) {k2 : SS → Int32 → Prop} (K2 : ∀ {σ : SS} {x1 : Int32} {H : Heap} {locs : List Loc} {ls : Array Slot}, k2 σ x1 → CX D vcl (tyl cA) (wR cA a σ) X A s H locs → lv_has ls 3 [(0, .ref (a 0)), (1, .int x1)] → W p l e r_R_tick s m args below meth c H locs 0 0 Q (F0 m 2 ls [])) : ∀ (n : Nat) {σ : SS} {x1 : Int32} {x2 : Int32} {H : Heap} {locs : List Loc} {ls : Array Slot}, f_R_tick_91 post k2 n σ x1 x2 → CX D vcl (tyl cA) (wR cA a σ) X A s H locs → lv_has ls 3 [(0, .ref (a 0)), (1, .int x1), (2, .int x2)] → W p l e r_R_tick s m args below meth c H locs 0 0 Q (F0 m 91 ls []) := by
  have hx := fx.1
  have hb := fx.2.1
  intro n
  induction n with
  | zero => intro σ x1 x2 H locs ls h; exact h.elim
  | succ n ih =>
    intro σ x1 x2 H locs ls h hw hl
    have K91 := @ih
    unfold f_R_tick_91 at h
    refine lv_iload_n (pc := 91) hx hb d_R_tick_91 rfl (lv_at hl 2 rfl) ?_
    refine lv_aload_n (pc := 92) hx hb d_R_tick_92 rfl (lv_at hl 0 rfl) ?_
    refine gR_0_reelSize (pc := 93) fx hw kw_1083 d_R_tick_93 ?_
    refine lv_icmp_ge (pc := 96) (tgt := 119) hx hb d_R_tick_96 (by decide) (fun c9 => ?_) (fun c9 => ?_)
    · replace h := h.1 c9
      exact c_R_tick_119 hX fx HR K2 h hw (lv_sub hl [0, 1] rfl)
    · replace h := h.2 c9
      refine lv_aload_n (pc := 99) hx hb d_R_tick_99 rfl (lv_at hl 0 rfl) ?_
      refine gR_0_reel (pc := 100) fx hw kw_1082 d_R_tick_100 ?_
      refine lv_iload_n (pc := 103) hx hb d_R_tick_103 rfl (lv_at hl 2 rfl) ?_
      refine lv_aload_n (pc := 104) hx hb d_R_tick_104 rfl (lv_at hl 0 rfl) ?_
      refine gR_0_reel (pc := 105) fx hw kw_1082 d_R_tick_105 ?_
      refine lv_iload_n (pc := 108) hx hb d_R_tick_108 rfl (lv_at hl 2 rfl) ?_
      refine lv_iconst (pc := 109) (v := 1) hx hb d_R_tick_109 (by decide) ?_
      refine lv_iadd (pc := 110) hx hb d_R_tick_110 ?_
      refine alR_7 (pc := 111) fx hw h.1 d_R_tick_111 ?_
      replace h := h.2
      refine asR_7 (pc := 112) fx hw h.1 d_R_tick_112 (fun σ_6 e9 H locs hw => ?_)
      replace h := nm_u h.2 e9
      clear e9
      obtain ⟨x2_7, e9⟩ : ∃ z : Int32, z = x2 + 1 := ⟨_, rfl⟩
      replace h := nm_u h e9
      refine lv_iinc (pc := 113) (v := x2_7) (lv' := [(2, .int x2_7), (0, .ref (a 0)), (1, .int x1)]) hx hb d_R_tick_113 hl (k := 2) rfl (by rw [e9]; rfl) (by decide) rfl (fun ls hl => ?_)
      clear e9
      refine lv_goto (pc := 116) (tgt := 91) hx hb d_R_tick_116 (by decide) ?_
      exact K91 h hw (lv_sub hl [1, 2, 0] rfl)
set_option maxHeartbeats 4000000 in
set_option maxRecDepth 100000 in
theorem c_R_tick_63 (hX : XT X) (fx : CallFix p m c b_R_tick 3 s args GW RNR) {post : SS → Prop} (HR : RetV p l e r_R_tick s m args below meth c Q D vcl (tyl cA) (wR cA a) X A b_R_tick post) {k2 : SS → Int32 → Prop} (K2 : ∀ {σ : SS} {x1 : Int32} {H : Heap} {locs : List Loc} {ls : Array Slot}, k2 σ x1 → CX D vcl (tyl cA) (wR cA a σ) X A s H locs → lv_has ls 3 [(0, .ref (a 0)), (1, .int x1)] → W p l e r_R_tick s m args below meth c H locs 0 0 Q (F0 m 2 ls [])) {σ : SS} {x1 : Int32} {H : Heap} {locs : List Loc} {ls : Array Slot} (h : f_R_tick_63 post k2 σ x1) (hw : CX D vcl (tyl cA) (wR cA a σ) X A s H locs) (hl : lv_has ls 3 [(0, .ref (a 0)), (1, .int x1)]) : W p l e r_R_tick s m args below meth c H locs 0 0 Q (F0 m 63 ls []) := by
  have hx := fx.1
  have hb := fx.2.1
  unfold f_R_tick_63 at h
  refine lv_iload_n (pc := 63) hx hb d_R_tick_63 rfl (lv_at hl 1 rfl) ?_
  refine lv_if_ne (pc := 64) (tgt := 119) hx hb d_R_tick_64 (by decide) (fun c9 => ?_) (fun c9 => ?_)
  · replace h := h.2 c9
    exact c_R_tick_119 hX fx HR K2 h hw (lv_sub hl [0, 1] rfl)
  · replace h := h.1 c9
    refine lv_aload_n (pc := 67) hx hb d_R_tick_67 rfl (lv_at hl 0 rfl) ?_
    refine gR_0_words (pc := 68) fx hw kw_1078 d_R_tick_68 ?_
    refine lv_iconst (pc := 71) (v := 0) hx hb d_R_tick_71 (by decide) ?_
    refine lv_aload_n (pc := 72) hx hb d_R_tick_72 rfl (lv_at hl 0 rfl) ?_
    refine gR_0_reel (pc := 73) fx hw kw_1082 d_R_tick_73 ?_
    refine lv_iconst (pc := 76) (v := 0) hx hb d_R_tick_76 (by decide) ?_
    refine alR_7 (pc := 77) fx hw h.1 d_R_tick_77 ?_
    replace h := h.2
    refine asR_3 (pc := 78) fx hw h.1 d_R_tick_78 (fun σ_8 e9 H locs hw => ?_)
    replace h := nm_u h.2 e9
    clear e9
    refine lv_aload_n (pc := 79) hx hb d_R_tick_79 rfl (lv_at hl 0 rfl) ?_
    refine lv_dup (pc := 80) hx hb d_R_tick_80 rfl ?_
    refine gR_0_reelSize (pc := 81) fx hw kw_1083 d_R_tick_81 ?_
    refine lv_iconst (pc := 84) (v := 1) hx hb d_R_tick_84 (by decide) ?_
    refine lv_isub (pc := 85) hx hb d_R_tick_85 ?_
    refine pR_0_reelSize (pc := 86) fx hw kw_1083 d_R_tick_86 (fun σ_9 e9 H locs hw => ?_)
    replace h := nm_u h e9
    clear e9
    refine lv_iconst (pc := 89) (v := 0) hx hb d_R_tick_89 (by decide) ?_
    refine lv_istore_n (pc := 90) (lv' := [(2, .int 0), (0, .ref (a 0)), (1, .int x1)]) hx hb d_R_tick_90 rfl hl (by decide) rfl (fun ls hl => ?_)
    obtain ⟨n9, h⟩ := h
    exact c_R_tick_91 hX fx HR K2 n9 h hw (lv_sub hl [1, 2, 0] rfl)
set_option maxHeartbeats 4000000 in
set_option maxRecDepth 100000 in
theorem c_R_tick_46 (hX : XT X) (fx : CallFix p m c b_R_tick 3 s args GW RNR) {post : SS → Prop} (HR : RetV p l e r_R_tick s m args below meth c Q D vcl (tyl cA) (wR cA a) X A b_R_tick post) {k2 : SS → Int32 → Prop} (K2 : ∀ {σ : SS} {x1 : Int32} {H : Heap} {locs : List Loc} {ls : Array Slot}, k2 σ x1 → CX D vcl (tyl cA) (wR cA a σ) X A s H locs → lv_has ls 3 [(0, .ref (a 0)), (1, .int x1)] → W p l e r_R_tick s m args below meth c H locs 0 0 Q (F0 m 2 ls [])) {σ : SS} {x1 : Int32} {s0 : Int32} {s1 : Int32} {H : Heap} {locs : List Loc} {ls : Array Slot} (h : f_R_tick_46 post k2 σ x1 s0 s1) (hw : CX D vcl (tyl cA) (wR cA a σ) X A s H locs) (hl : lv_has ls 3 [(0, .ref (a 0)), (1, .int x1)]) : W p l e r_R_tick s m args below meth c H locs 0 0 Q (F0 m 46 ls [.int s0, .int s1]) := by
  have hx := fx.1
  have hb := fx.2.1
  unfold f_R_tick_46 at h
  refine lv_icmp_lt (pc := 46) (tgt := 173) hx hb d_R_tick_46 (by decide) (fun c9 => ?_) (fun c9 => ?_)
  · replace h := h.1 c9
    exact c_R_tick_173 hX fx HR K2 h hw (lv_sub hl [0, 1] rfl)
  · replace h := h.2 c9
    refine lv_iload_n (pc := 49) hx hb d_R_tick_49 rfl (lv_at hl 1 rfl) ?_
    refine lv_if_ne (pc := 50) (tgt := 63) hx hb d_R_tick_50 (by decide) (fun c9 => ?_) (fun c9 => ?_)
    · replace h := h.2 c9
      exact c_R_tick_63 hX fx HR K2 h hw (lv_sub hl [0, 1] rfl)
    · replace h := h.1 c9
      refine lv_aload_n (pc := 53) hx hb d_R_tick_53 rfl (lv_at hl 0 rfl) ?_
      refine gR_0_reelSize (pc := 54) fx hw kw_1083 d_R_tick_54 ?_
      refine lv_if_ne (pc := 57) (tgt := 63) hx hb d_R_tick_57 (by decide) (fun c9 => ?_) (fun c9 => ?_)
      · replace h := h.2 c9
        exact c_R_tick_63 hX fx HR K2 h hw (lv_sub hl [0, 1] rfl)
      · replace h := h.1 c9
        refine lv_goto (pc := 60) (tgt := 173) hx hb d_R_tick_60 (by decide) ?_
        exact c_R_tick_173 hX fx HR K2 h hw (lv_sub hl [0, 1] rfl)
set_option maxHeartbeats 4000000 in
set_option maxRecDepth 100000 in
theorem c_R_tick_2 (hX : XT X) (fx : CallFix p m c b_R_tick 3 s args GW RNR) {post : SS → Prop} (HR : RetV p l e r_R_tick s m args below meth c Q D vcl (tyl cA) (wR cA a) X A b_R_tick post) : ∀ (n : Nat) {σ : SS} {x1 : Int32} {H : Heap} {locs : List Loc} {ls : Array Slot}, f_R_tick_2 post n σ x1 → CX D vcl (tyl cA) (wR cA a σ) X A s H locs → lv_has ls 3 [(0, .ref (a 0)), (1, .int x1)] → W p l e r_R_tick s m args below meth c H locs 0 0 Q (F0 m 2 ls []) := by
  have hx := fx.1
  have hb := fx.2.1
  intro n
  induction n with
  | zero => intro σ x1 H locs ls h; exact h.elim
  | succ n ih =>
    intro σ x1 H locs ls h hw hl
    have K2 := @ih
    unfold f_R_tick_2 at h
    refine lv_iload_n (pc := 2) hx hb d_R_tick_2 rfl (lv_at hl 1 rfl) ?_
    refine lv_iconst (pc := 3) (v := 3) hx hb d_R_tick_3 (by decide) ?_
    refine lv_icmp_ge (pc := 4) (tgt := 179) hx hb d_R_tick_4 (by decide) (fun c9 => ?_) (fun c9 => ?_)
    · replace h := h.1 c9
      exact HR d_R_tick_179 h hw
    · replace h := h.2 c9
      refine lv_aload_n (pc := 7) hx hb d_R_tick_7 rfl (lv_at hl 0 rfl) ?_
      refine gR_0_busy (pc := 8) fx hw kw_1079 d_R_tick_8 ?_
      refine lv_iload_n (pc := 11) hx hb d_R_tick_11 rfl (lv_at hl 1 rfl) ?_
      refine alR_4 (pc := 12) fx hw h.1 d_R_tick_12 ?_
      replace h := h.2
      refine lv_if_ne (pc := 13) (tgt := 19) hx hb d_R_tick_13 (by decide) (fun c9 => ?_) (fun c9 => ?_)
      · replace h := h.2 c9
        refine lv_aload_n (pc := 19) hx hb d_R_tick_19 rfl (lv_at hl 0 rfl) ?_
        refine gR_0_ticks (pc := 20) fx hw kw_1081 d_R_tick_20 ?_
        refine lv_iload_n (pc := 23) hx hb d_R_tick_23 rfl (lv_at hl 1 rfl) ?_
        refine lv_dup2_11 (pc := 24) hx hb d_R_tick_24 rfl rfl ?_
        refine alR_6 (pc := 25) fx hw h.1 d_R_tick_25 ?_
        replace h := h.2
        refine lv_iconst (pc := 26) (v := 1) hx hb d_R_tick_26 (by decide) ?_
        refine lv_iadd (pc := 27) hx hb d_R_tick_27 ?_
        refine asR_6 (pc := 28) fx hw h.1 d_R_tick_28 (fun σ_10 e9 H locs hw => ?_)
        replace h := nm_u h.2 e9
        clear e9
        refine lv_aload_n (pc := 29) hx hb d_R_tick_29 rfl (lv_at hl 0 rfl) ?_
        refine gR_0_ticks (pc := 30) fx hw kw_1081 d_R_tick_30 ?_
        refine lv_iload_n (pc := 33) hx hb d_R_tick_33 rfl (lv_at hl 1 rfl) ?_
        refine alR_6 (pc := 34) fx hw h.1 d_R_tick_34 ?_
        replace h := h.2
        refine lv_iload_n (pc := 35) hx hb d_R_tick_35 rfl (lv_at hl 1 rfl) ?_
        refine lv_iconst (pc := 36) (v := 2) hx hb d_R_tick_36 (by decide) ?_
        refine lv_icmp_ne (pc := 37) (tgt := 45) hx hb d_R_tick_37 (by decide) (fun c9 => ?_) (fun c9 => ?_)
        · replace h := h.2 c9
          refine lv_iconst (pc := 45) (v := 4) hx hb d_R_tick_45 (by decide) ?_
          exact c_R_tick_46 hX fx HR K2 h hw (lv_sub hl [0, 1] rfl)
        · replace h := h.1 c9
          refine lv_bipush (pc := 40) (v := 20) hx hb d_R_tick_40 (by decide) ?_
          refine lv_goto (pc := 42) (tgt := 46) hx hb d_R_tick_42 (by decide) ?_
          exact c_R_tick_46 hX fx HR K2 h hw (lv_sub hl [0, 1] rfl)
      · replace h := h.1 c9
        refine lv_goto (pc := 16) (tgt := 173) hx hb d_R_tick_16 (by decide) ?_
        exact c_R_tick_173 hX fx HR K2 h hw (lv_sub hl [0, 1] rfl)
set_option maxHeartbeats 4000000 in
set_option maxRecDepth 100000 in
theorem e_R_tick (hX : XT X) (fx : CallFix p m c b_R_tick 3 s args GW RNR) {post : SS → Prop} (HR : RetV p l e r_R_tick s m args below meth c Q D vcl (tyl cA) (wR cA a) X A b_R_tick post) {σ : SS} {H : Heap} {locs : List Loc} {ls : Array Slot} (h : f_R_tick post σ) (hw : CX D vcl (tyl cA) (wR cA a σ) X A s H locs) (hl : lv_has ls 3 [(0, .ref (a 0))]) : W p l e r_R_tick s m args below meth c H locs 0 0 Q (F0 m 0 ls []) := by
  have hx := fx.1
  have hb := fx.2.1
  unfold f_R_tick at h
  refine lv_iconst (pc := 0) (v := 0) hx hb d_R_tick_0 (by decide) ?_
  refine lv_istore_n (pc := 1) (lv' := [(1, .int 0), (0, .ref (a 0))]) hx hb d_R_tick_1 rfl hl (by decide) rfl (fun ls hl => ?_)
  obtain ⟨n9, h⟩ := h
  exact c_R_tick_2 hX fx HR n9 h hw (lv_sub hl [1, 0] rfl)
end
theorem c_R_tick {l : Launch} {D : va_G} {cA : Nat → ClassId} {a : Nat → Nat} {X : (Nat → Prop) → State → Prop} (hX : XT X) {σ : SS} {post : SS → Prop} (h : f_R_tick post σ) : mV l y_R_tick b_R_tick 3 none 0 0 D vcl (tyl cA) (wR cA a) X σ [.ref (a 0)] post := met_V (by decide) (Nat.le_of_ble_eq_true rfl) (fun p e s m args below meth c A Q fx HR H ls hw hl => e_R_tick hX fx HR h hw hl)
abbrev r_R_step : Room := { frames := 4, cells := 0, slots := 0, locals := 94 }
def f_R_step_316 (post : Int32 → SS → Prop) (σ : SS) (s0 : Int32) : Prop := nm (sI σ 1 s0) fun σ_1 => f_R_tick (fun σ_2 => nm (sI σ_2 6 ((σ_2.1 6) + 1)) fun σ_4 => post 1 σ_4) σ_1
def f_R_step_300 (post : Int32 → SS → Prop) (σ : SS) (x3 : Int32) (x4 : Int32) : Prop := br (x4 = 0) (f_R_step_316 post σ x3) (f_R_step_316 post σ ((x3 + 1) - (x3 + 1) / 32768 * 32768))
def f_R_step_298 (post : Int32 → SS → Prop) (σ : SS) (x3 : Int32) (s0 : Int32) : Prop := f_R_step_300 post σ x3 s0
def f_R_step_278 (post : Int32 → SS → Prop) (σ : SS) (x3 : Int32) (x6 : Int32) (s0 : Int32) (s1 : Int32) (s2 : Int32) : Prop := vp_in s2 32768 ∧ nm (sA σ 1 s2.toNatClampNeg ((s1 + s0) - (s1 + s0) / 65536 * 65536)) fun σ_5 => vp_in x6 32768 ∧ br ((σ_5.2.1 1 x6.toNatClampNeg) = 0) (f_R_step_298 post σ_5 x3 1) (f_R_step_298 post σ_5 x3 0)
def f_R_step_247 (post : Int32 → SS → Prop) (σ : SS) (x4 : Int32) (x6 : Int32) : Prop := f_R_step_300 post σ x6 x4
def f_R_step_76 (post : Int32 → SS → Prop) (σ : SS) : Prop := vp_in (σ.1 1) 32768 ∧ nm (σ.2.1 1 (σ.1 1).toNatClampNeg) fun x2_6 => nm (((σ.1 1) + 1) - ((σ.1 1) + 1) / 32768 * 32768) fun x3_7 => nm (σ.1 4) fun x5_8 => nm (sI σ 4 0) fun σ_9 => br (x2_6 < 32768) (br ((x2_6 / 8192) = 3) (f_R_devices (fun r_18 σ_17 => f_R_step_300 post σ_17 x3_7 r_18) σ_9 x2_6) (f_R_addressOf (fun r_11 σ_10 => br ((σ_10.1 8) = 0) (nm ((x2_6 / 2048) - (x2_6 / 2048) / 4 * 4) fun x7_12 => br ((x2_6 / 8192) = 1) (vp_in r_11 32768 ∧ vp_in x7_12 4 ∧ nm (sA σ_10 2 x7_12.toNatClampNeg (σ_10.2.1 1 r_11.toNatClampNeg)) fun σ_15 => f_R_step_300 post σ_15 x3_7 0) (br ((x2_6 / 8192) = 2) (vp_in x7_12 4 ∧ vp_in r_11 32768 ∧ nm (sA σ_10 1 r_11.toNatClampNeg (σ_10.2.1 2 x7_12.toNatClampNeg)) fun σ_14 => f_R_step_300 post σ_14 x3_7 0) (br (2 ≤ x7_12) (vp_in r_11 32768 ∧ br (x7_12 = 2) (f_R_step_278 post σ_10 x3_7 r_11 1 (σ_10.2.1 1 r_11.toNatClampNeg) r_11) (f_R_step_278 post σ_10 x3_7 r_11 65535 (σ_10.2.1 1 r_11.toNatClampNeg) r_11)) (br (x7_12 = 1) (vp_in (3 : Int32) 4 ∧ nm (sA σ_10 2 (3 : Int32).toNatClampNeg x3_7) fun σ_13 => f_R_step_247 post σ_13 0 r_11) (f_R_step_247 post σ_10 0 r_11))))) (bz x5_8 ∧ nm (sI σ_10 4 x5_8) fun σ_16 => post 0 σ_16)) σ_9 x2_6)) (f_R_reckons (fun r_20 σ_19 => f_R_step_300 post σ_19 x3_7 r_20) σ_9 x2_6)
def f_R_step_26 (post : Int32 → SS → Prop) (σ : SS) (s0 : Int32) : Prop := br (s0 = 0) (f_R_step_76 post σ) (nm (sI σ 7 ((σ.1 7) + 1)) fun σ_21 => vp_in (0 : Int32) 32768 ∧ nm (sA σ_21 1 (0 : Int32).toNatClampNeg (σ_21.1 1)) fun σ_22 => nm (sI σ_22 3 0) fun σ_23 => f_R_chase (fun r_25 σ_24 => br ((σ_24.1 8) = 0) (nm (sI σ_24 1 r_25) fun σ_26 => f_R_step_76 post σ_26) (post 0 σ_24)) σ_23 1)
def f_R_step (post : Int32 → SS → Prop) (σ : SS) : Prop := br ((σ.1 3) = 0) (f_R_step_26 post σ 0) (br ((σ.1 4) = 0) (f_R_asking (fun r_28 σ_27 => br (r_28 ≤ 0) (f_R_step_26 post σ_27 0) (f_R_step_26 post σ_27 1)) σ) (f_R_step_26 post σ 0))
section
variable {p : Program} {l : Launch} {e : Env} {s : State} {m : MethodId} {args : Array Value} {below : List Frame} {meth : Method} {c : Code} {Q : State → Prop} {D : va_G} {cA : Nat → ClassId} {a : Nat → Nat} {X : (Nat → Prop) → State → Prop} {A : Nat → Prop}
set_option maxHeartbeats 4000000 in
set_option maxRecDepth 100000 in
theorem c_R_step_316 (hX : XT X) (fx : CallFix p m c b_R_step 8 s args GW RNR) {post : Int32 → SS → Prop} (HR : RetI p l e r_R_step s m args below meth c Q D vcl (tyl cA) (wR cA a) X A b_R_step .boolean (fun r σ => bz r ∧ post r σ)) {σ : SS} {s0 : Int32} {H : Heap} {locs : List Loc} {ls : Array Slot} (h : f_R_step_316 post σ s0) (hw : CX D vcl (tyl cA) (wR cA a σ) X A s H locs) (hl : lv_has ls 8 [(0, .ref (a 0))]) : W p l e r_R_step s m args below meth c H locs 0 0 Q (F0 m 316 ls [.int s0, .ref (a 0)]) := by
  have hx := fx.1
  have hb := fx.2.1
  unfold f_R_step_316 at h
  refine pR_0_pc (pc := 316) fx hw kw_1070 d_R_step_316 (fun σ_1 e9 H locs hw => ?_)
  replace h := nm_u h e9
  clear e9
  refine lv_aload_n (pc := 319) hx hb d_R_step_319 rfl (lv_at hl 0 rfl) ?_
  refine cxU (pc := 320) hX fx hw (c_R_tick hX h) cw_R_163 (rcR_0 hw) rfl ⟨Nat.le_of_ble_eq_true rfl, Nat.le_of_ble_eq_true rfl⟩ hl.1 (Nat.le_of_ble_eq_true rfl) d_R_step_320 ⟨Nat.zero_le _, Nat.zero_le _⟩ (fun σ_2 H locs hw h => ?_)
  refine lv_aload_n (pc := 323) hx hb d_R_step_323 rfl (lv_at hl 0 rfl) ?_
  refine lv_dup (pc := 324) hx hb d_R_step_324 rfl ?_
  refine gR_0_done (pc := 325) fx hw kw_1075 d_R_step_325 ?_
  refine lv_iconst (pc := 328) (v := 1) hx hb d_R_step_328 (by decide) ?_
  refine lv_iadd (pc := 329) hx hb d_R_step_329 ?_
  refine pR_0_done (pc := 330) fx hw kw_1075 d_R_step_330 (fun σ_4 e9 H locs hw => ?_)
  replace h := nm_u h e9
  clear e9
  refine lv_iconst (pc := 333) (v := 1) hx hb d_R_step_333 (by decide) ?_
  exact HR (bz_n bz_1) d_R_step_334 ⟨bz_1, h⟩ hw
set_option maxHeartbeats 4000000 in
set_option maxRecDepth 100000 in
theorem c_R_step_300 (hX : XT X) (fx : CallFix p m c b_R_step 8 s args GW RNR) {post : Int32 → SS → Prop} (HR : RetI p l e r_R_step s m args below meth c Q D vcl (tyl cA) (wR cA a) X A b_R_step .boolean (fun r σ => bz r ∧ post r σ)) {σ : SS} {x3 : Int32} {x4 : Int32} {H : Heap} {locs : List Loc} {ls : Array Slot} (h : f_R_step_300 post σ x3 x4) (hw : CX D vcl (tyl cA) (wR cA a σ) X A s H locs) (hl : lv_has ls 8 [(0, .ref (a 0)), (3, .int x3), (4, .int x4)]) : W p l e r_R_step s m args below meth c H locs 0 0 Q (F0 m 300 ls []) := by
  have hx := fx.1
  have hb := fx.2.1
  unfold f_R_step_300 at h
  refine lv_aload_n (pc := 300) hx hb d_R_step_300 rfl (lv_at hl 0 rfl) ?_
  refine lv_iload (pc := 301) hx hb d_R_step_301 (lv_at hl 2 rfl) ?_
  refine lv_if_eq (pc := 303) (tgt := 315) hx hb d_R_step_303 (by decide) (fun c9 => ?_) (fun c9 => ?_)
  · replace h := h.1 c9
    refine lv_iload_n (pc := 315) hx hb d_R_step_315 rfl (lv_at hl 1 rfl) ?_
    exact c_R_step_316 hX fx HR h hw (lv_sub hl [0] rfl)
  · replace h := h.2 c9
    refine lv_iload_n (pc := 306) hx hb d_R_step_306 rfl (lv_at hl 1 rfl) ?_
    refine lv_iconst (pc := 307) (v := 1) hx hb d_R_step_307 (by decide) ?_
    refine lv_iadd (pc := 308) hx hb d_R_step_308 ?_
    refine lv_ldc (pc := 309) (v := 32768) hx hb fx.2.2.2.1 (fx.2.2.2.2 _ kw_1066) d_R_step_309 ?_
    refine lv_irem (pc := 311) hx hb d_R_step_311 (by decide) ?_
    refine lv_goto (pc := 312) (tgt := 316) hx hb d_R_step_312 (by decide) ?_
    exact c_R_step_316 hX fx HR h hw (lv_sub hl [0] rfl)
set_option maxHeartbeats 4000000 in
set_option maxRecDepth 100000 in
theorem c_R_step_298 (hX : XT X) (fx : CallFix p m c b_R_step 8 s args GW RNR) {post : Int32 → SS → Prop} (HR : RetI p l e r_R_step s m args below meth c Q D vcl (tyl cA) (wR cA a) X A b_R_step .boolean (fun r σ => bz r ∧ post r σ)) {σ : SS} {x3 : Int32} {s0 : Int32} {H : Heap} {locs : List Loc} {ls : Array Slot} (h : f_R_step_298 post σ x3 s0) (hw : CX D vcl (tyl cA) (wR cA a σ) X A s H locs) (hl : lv_has ls 8 [(0, .ref (a 0)), (3, .int x3)]) : W p l e r_R_step s m args below meth c H locs 0 0 Q (F0 m 298 ls [.int s0]) := by
  have hx := fx.1
  have hb := fx.2.1
  unfold f_R_step_298 at h
  refine lv_istore (pc := 298) (lv' := [(4, .int s0), (0, .ref (a 0)), (3, .int x3)]) hx hb d_R_step_298 hl (by decide) rfl (fun ls hl => ?_)
  exact c_R_step_300 hX fx HR h hw (lv_sub hl [1, 2, 0] rfl)
set_option maxHeartbeats 4000000 in
set_option maxRecDepth 100000 in
theorem c_R_step_278 (hX : XT X) (fx : CallFix p m c b_R_step 8 s args GW RNR) {post : Int32 → SS → Prop} (HR : RetI p l e r_R_step s m args below meth c Q D vcl (tyl cA) (wR cA a) X A b_R_step .boolean (fun r σ => bz r ∧ post r σ)) {σ : SS} {x3 : Int32} {x6 : Int32} {s0 : Int32} {s1 : Int32} {s2 : Int32} {H : Heap} {locs : List Loc} {ls : Array Slot} (h : f_R_step_278 post σ x3 x6 s0 s1 s2) (hw : CX D vcl (tyl cA) (wR cA a σ) X A s H locs) (hl : lv_has ls 8 [(0, .ref (a 0)), (3, .int x3), (6, .int x6)]) : W p l e r_R_step s m args below meth c H locs 0 0 Q (F0 m 278 ls [.int s0, .int s1, .int s2, .ref (a 1)]) := by
  have hx := fx.1
  have hb := fx.2.1
  unfold f_R_step_278 at h
  refine lv_iadd (pc := 278) hx hb d_R_step_278 ?_
  refine lv_ldc (pc := 279) (v := 65536) hx hb fx.2.2.2.1 (fx.2.2.2.2 _ kw_1288) d_R_step_279 ?_
  refine lv_irem (pc := 281) hx hb d_R_step_281 (by decide) ?_
  refine asR_1 (pc := 282) fx hw h.1 d_R_step_282 (fun σ_5 e9 H locs hw => ?_)
  replace h := nm_u h.2 e9
  clear e9
  refine lv_aload_n (pc := 283) hx hb d_R_step_283 rfl (lv_at hl 0 rfl) ?_
  refine gR_0_memory (pc := 284) fx hw kw_1067 d_R_step_284 ?_
  refine lv_iload (pc := 287) hx hb d_R_step_287 (lv_at hl 2 rfl) ?_
  refine alR_1 (pc := 289) fx hw h.1 d_R_step_289 ?_
  replace h := h.2
  refine lv_if_ne (pc := 290) (tgt := 297) hx hb d_R_step_290 (by decide) (fun c9 => ?_) (fun c9 => ?_)
  · replace h := h.2 c9
    refine lv_iconst (pc := 297) (v := 0) hx hb d_R_step_297 (by decide) ?_
    exact c_R_step_298 hX fx HR h hw (lv_sub hl [0, 1] rfl)
  · replace h := h.1 c9
    refine lv_iconst (pc := 293) (v := 1) hx hb d_R_step_293 (by decide) ?_
    refine lv_goto (pc := 294) (tgt := 298) hx hb d_R_step_294 (by decide) ?_
    exact c_R_step_298 hX fx HR h hw (lv_sub hl [0, 1] rfl)
set_option maxHeartbeats 4000000 in
set_option maxRecDepth 100000 in
theorem c_R_step_247 (hX : XT X) (fx : CallFix p m c b_R_step 8 s args GW RNR) {post : Int32 → SS → Prop} (HR : RetI p l e r_R_step s m args below meth c Q D vcl (tyl cA) (wR cA a) X A b_R_step .boolean (fun r σ => bz r ∧ post r σ)) {σ : SS} {x4 : Int32} {x6 : Int32} {H : Heap} {locs : List Loc} {ls : Array Slot} (h : f_R_step_247 post σ x4 x6) (hw : CX D vcl (tyl cA) (wR cA a σ) X A s H locs) (hl : lv_has ls 8 [(0, .ref (a 0)), (4, .int x4), (6, .int x6)]) : W p l e r_R_step s m args below meth c H locs 0 0 Q (F0 m 247 ls []) := by
  have hx := fx.1
  have hb := fx.2.1
  unfold f_R_step_247 at h
  refine lv_iload (pc := 247) hx hb d_R_step_247 (lv_at hl 2 rfl) ?_
  refine lv_istore_n (pc := 249) (lv' := [(3, .int x6), (0, .ref (a 0)), (4, .int x4), (6, .int x6)]) hx hb d_R_step_249 rfl hl (by decide) rfl (fun ls hl => ?_)
  refine lv_goto (pc := 250) (tgt := 300) hx hb d_R_step_250 (by decide) ?_
  exact c_R_step_300 hX fx HR h hw (lv_sub hl [1, 0, 2] rfl)
set_option maxHeartbeats 4000000 in
set_option maxRecDepth 100000 in
theorem c_R_step_76 (hX : XT X) (fx : CallFix p m c b_R_step 8 s args GW RNR) {post : Int32 → SS → Prop} (HR : RetI p l e r_R_step s m args below meth c Q D vcl (tyl cA) (wR cA a) X A b_R_step .boolean (fun r σ => bz r ∧ post r σ)) {σ : SS} {H : Heap} {locs : List Loc} {ls : Array Slot} (h : f_R_step_76 post σ) (hw : CX D vcl (tyl cA) (wR cA a σ) X A s H locs) (hl : lv_has ls 8 [(0, .ref (a 0))]) : W p l e r_R_step s m args below meth c H locs 0 0 Q (F0 m 76 ls []) := by
  have hx := fx.1
  have hb := fx.2.1
  unfold f_R_step_76 at h
  refine lv_aload_n (pc := 76) hx hb d_R_step_76 rfl (lv_at hl 0 rfl) ?_
  refine gR_0_memory (pc := 77) fx hw kw_1067 d_R_step_77 ?_
  refine lv_aload_n (pc := 80) hx hb d_R_step_80 rfl (lv_at hl 0 rfl) ?_
  refine gR_0_pc (pc := 81) fx hw kw_1070 d_R_step_81 ?_
  refine alR_1 (pc := 84) fx hw h.1 d_R_step_84 ?_
  replace h := h.2
  refine lv_topi (fun x2_6 e9 => ?_)
  replace h := nm_u h e9
  clear e9
  refine lv_istore_n (pc := 85) (lv' := [(2, .int x2_6), (0, .ref (a 0))]) hx hb d_R_step_85 rfl hl (by decide) rfl (fun ls hl => ?_)
  refine lv_aload_n (pc := 86) hx hb d_R_step_86 rfl (lv_at hl 1 rfl) ?_
  refine gR_0_pc (pc := 87) fx hw kw_1070 d_R_step_87 ?_
  refine lv_iconst (pc := 90) (v := 1) hx hb d_R_step_90 (by decide) ?_
  refine lv_iadd (pc := 91) hx hb d_R_step_91 ?_
  refine lv_ldc (pc := 92) (v := 32768) hx hb fx.2.2.2.1 (fx.2.2.2.2 _ kw_1066) d_R_step_92 ?_
  refine lv_irem (pc := 94) hx hb d_R_step_94 (by decide) ?_
  refine lv_topi (fun x3_7 e9 => ?_)
  replace h := nm_u h e9
  clear e9
  refine lv_istore_n (pc := 95) (lv' := [(3, .int x3_7), (2, .int x2_6), (0, .ref (a 0))]) hx hb d_R_step_95 rfl hl (by decide) rfl (fun ls hl => ?_)
  refine lv_iconst (pc := 96) (v := 0) hx hb d_R_step_96 (by decide) ?_
  refine lv_istore (pc := 97) (lv' := [(4, .int 0), (3, .int x3_7), (2, .int x2_6), (0, .ref (a 0))]) hx hb d_R_step_97 hl (by decide) rfl (fun ls hl => ?_)
  refine lv_aload_n (pc := 99) hx hb d_R_step_99 rfl (lv_at hl 3 rfl) ?_
  refine gR_0_justIon (pc := 100) fx hw kw_1073 d_R_step_100 ?_
  refine lv_topi (fun x5_8 e9 => ?_)
  replace h := nm_u h e9
  clear e9
  refine lv_istore (pc := 103) (lv' := [(5, .int x5_8), (4, .int 0), (3, .int x3_7), (2, .int x2_6), (0, .ref (a 0))]) hx hb d_R_step_103 hl (by decide) rfl (fun ls hl => ?_)
  refine lv_aload_n (pc := 105) hx hb d_R_step_105 rfl (lv_at hl 4 rfl) ?_
  refine lv_iconst (pc := 106) (v := 0) hx hb d_R_step_106 (by decide) ?_
  refine pR_0_justIon (pc := 107) fx hw kw_1073 bz_0 d_R_step_107 (fun σ_9 e9 H locs hw => ?_)
  replace h := nm_u h e9
  clear e9
  refine lv_iload_n (pc := 110) hx hb d_R_step_110 rfl (lv_at hl 3 rfl) ?_
  refine lv_ldc (pc := 111) (v := 32768) hx hb fx.2.2.2.1 (fx.2.2.2.2 _ kw_1066) d_R_step_111 ?_
  refine lv_icmp_lt (pc := 113) (tgt := 126) hx hb d_R_step_113 (by decide) (fun c9 => ?_) (fun c9 => ?_)
  · replace h := h.1 c9
    refine lv_iload_n (pc := 126) hx hb d_R_step_126 rfl (lv_at hl 3 rfl) ?_
    refine lv_sipush (pc := 127) (v := 8192) hx hb d_R_step_127 (by decide) ?_
    refine lv_idiv (pc := 130) hx hb d_R_step_130 (by decide) ?_
    refine lv_iconst (pc := 131) (v := 3) hx hb d_R_step_131 (by decide) ?_
    refine lv_icmp_ne (pc := 132) (tgt := 145) hx hb d_R_step_132 (by decide) (fun c9 => ?_) (fun c9 => ?_)
    · replace h := h.2 c9
      refine lv_aload_n (pc := 145) hx hb d_R_step_145 rfl (lv_at hl 4 rfl) ?_
      refine lv_iload_n (pc := 146) hx hb d_R_step_146 rfl (lv_at hl 3 rfl) ?_
      refine cxI (pc := 147) hX fx hw (c_R_addressOf hX h) cw_R_160 (rcR_0 hw) rfl ⟨Nat.le_of_ble_eq_true rfl, Nat.le_of_ble_eq_true rfl⟩ hl.1 (Nat.le_of_ble_eq_true rfl) d_R_step_147 ⟨Nat.zero_le _, Nat.zero_le _⟩ (fun r_11 σ_10 H locs hw h => ?_)
      refine lv_istore (pc := 150) (lv' := [(6, .int r_11), (5, .int x5_8), (4, .int 0), (3, .int x3_7), (2, .int x2_6), (0, .ref (a 0))]) hx hb d_R_step_150 hl (by decide) rfl (fun ls hl => ?_)
      refine lv_aload_n (pc := 152) hx hb d_R_step_152 rfl (lv_at hl 5 rfl) ?_
      refine gR_0_lost (pc := 153) fx hw kw_1077 d_R_step_153 ?_
      refine lv_if_eq (pc := 156) (tgt := 167) hx hb d_R_step_156 (by decide) (fun c9 => ?_) (fun c9 => ?_)
      · replace h := h.1 c9
        refine lv_iload_n (pc := 167) hx hb d_R_step_167 rfl (lv_at hl 4 rfl) ?_
        refine lv_sipush (pc := 168) (v := 2048) hx hb d_R_step_168 (by decide) ?_
        refine lv_idiv (pc := 171) hx hb d_R_step_171 (by decide) ?_
        refine lv_iconst (pc := 172) (v := 4) hx hb d_R_step_172 (by decide) ?_
        refine lv_irem (pc := 173) hx hb d_R_step_173 (by decide) ?_
        refine lv_topi (fun x7_12 e9 => ?_)
        replace h := nm_u h e9
        clear e9
        refine lv_istore (pc := 174) (lv' := [(7, .int x7_12), (6, .int r_11), (5, .int x5_8), (4, .int 0), (3, .int x3_7), (2, .int x2_6), (0, .ref (a 0))]) hx hb d_R_step_174 hl (by decide) rfl (fun ls hl => ?_)
        refine lv_iload_n (pc := 176) hx hb d_R_step_176 rfl (lv_at hl 5 rfl) ?_
        refine lv_sipush (pc := 177) (v := 8192) hx hb d_R_step_177 (by decide) ?_
        refine lv_idiv (pc := 180) hx hb d_R_step_180 (by decide) ?_
        refine lv_iconst (pc := 181) (v := 1) hx hb d_R_step_181 (by decide) ?_
        refine lv_icmp_ne (pc := 182) (tgt := 202) hx hb d_R_step_182 (by decide) (fun c9 => ?_) (fun c9 => ?_)
        · replace h := h.2 c9
          refine lv_iload_n (pc := 202) hx hb d_R_step_202 rfl (lv_at hl 5 rfl) ?_
          refine lv_sipush (pc := 203) (v := 8192) hx hb d_R_step_203 (by decide) ?_
          refine lv_idiv (pc := 206) hx hb d_R_step_206 (by decide) ?_
          refine lv_iconst (pc := 207) (v := 2) hx hb d_R_step_207 (by decide) ?_
          refine lv_icmp_ne (pc := 208) (tgt := 228) hx hb d_R_step_208 (by decide) (fun c9 => ?_) (fun c9 => ?_)
          · replace h := h.2 c9
            refine lv_iload (pc := 228) hx hb d_R_step_228 (lv_at hl 0 rfl) ?_
            refine lv_iconst (pc := 230) (v := 2) hx hb d_R_step_230 (by decide) ?_
            refine lv_icmp_ge (pc := 231) (tgt := 253) hx hb d_R_step_231 (by decide) (fun c9 => ?_) (fun c9 => ?_)
            · replace h := h.1 c9
              refine lv_aload_n (pc := 253) hx hb d_R_step_253 rfl (lv_at hl 6 rfl) ?_
              refine gR_0_memory (pc := 254) fx hw kw_1067 d_R_step_254 ?_
              refine lv_iload (pc := 257) hx hb d_R_step_257 (lv_at hl 1 rfl) ?_
              refine lv_aload_n (pc := 259) hx hb d_R_step_259 rfl (lv_at hl 6 rfl) ?_
              refine gR_0_memory (pc := 260) fx hw kw_1067 d_R_step_260 ?_
              refine lv_iload (pc := 263) hx hb d_R_step_263 (lv_at hl 1 rfl) ?_
              refine alR_1 (pc := 265) fx hw h.1 d_R_step_265 ?_
              replace h := h.2
              refine lv_iload (pc := 266) hx hb d_R_step_266 (lv_at hl 0 rfl) ?_
              refine lv_iconst (pc := 268) (v := 2) hx hb d_R_step_268 (by decide) ?_
              refine lv_icmp_ne (pc := 269) (tgt := 276) hx hb d_R_step_269 (by decide) (fun c9 => ?_) (fun c9 => ?_)
              · replace h := h.2 c9
                refine lv_ldc (pc := 276) (v := 65535) hx hb fx.2.2.2.1 (fx.2.2.2.2 _ kw_1227) d_R_step_276 ?_
                exact c_R_step_278 hX fx HR h hw (lv_sub hl [6, 4, 1] rfl)
              · replace h := h.1 c9
                refine lv_iconst (pc := 272) (v := 1) hx hb d_R_step_272 (by decide) ?_
                refine lv_goto (pc := 273) (tgt := 278) hx hb d_R_step_273 (by decide) ?_
                exact c_R_step_278 hX fx HR h hw (lv_sub hl [6, 4, 1] rfl)
            · replace h := h.2 c9
              refine lv_iload (pc := 234) hx hb d_R_step_234 (lv_at hl 0 rfl) ?_
              refine lv_iconst (pc := 236) (v := 1) hx hb d_R_step_236 (by decide) ?_
              refine lv_icmp_ne (pc := 237) (tgt := 247) hx hb d_R_step_237 (by decide) (fun c9 => ?_) (fun c9 => ?_)
              · replace h := h.2 c9
                exact c_R_step_247 hX fx HR h hw (lv_sub hl [6, 3, 1] rfl)
              · replace h := h.1 c9
                refine lv_aload_n (pc := 240) hx hb d_R_step_240 rfl (lv_at hl 6 rfl) ?_
                refine gR_0_accumulators (pc := 241) fx hw kw_1068 d_R_step_241 ?_
                refine lv_iconst (pc := 244) (v := 3) hx hb d_R_step_244 (by decide) ?_
                refine lv_iload_n (pc := 245) hx hb d_R_step_245 rfl (lv_at hl 4 rfl) ?_
                refine asR_2 (pc := 246) fx hw h.1 d_R_step_246 (fun σ_13 e9 H locs hw => ?_)
                replace h := nm_u h.2 e9
                clear e9
                exact c_R_step_247 hX fx HR h hw (lv_sub hl [6, 3, 1] rfl)
          · replace h := h.1 c9
            refine lv_aload_n (pc := 211) hx hb d_R_step_211 rfl (lv_at hl 6 rfl) ?_
            refine gR_0_memory (pc := 212) fx hw kw_1067 d_R_step_212 ?_
            refine lv_iload (pc := 215) hx hb d_R_step_215 (lv_at hl 1 rfl) ?_
            refine lv_aload_n (pc := 217) hx hb d_R_step_217 rfl (lv_at hl 6 rfl) ?_
            refine gR_0_accumulators (pc := 218) fx hw kw_1068 d_R_step_218 ?_
            refine lv_iload (pc := 221) hx hb d_R_step_221 (lv_at hl 0 rfl) ?_
            refine alR_2 (pc := 223) fx hw h.1 d_R_step_223 ?_
            replace h := h.2
            refine asR_1 (pc := 224) fx hw h.1 d_R_step_224 (fun σ_14 e9 H locs hw => ?_)
            replace h := nm_u h.2 e9
            clear e9
            refine lv_goto (pc := 225) (tgt := 300) hx hb d_R_step_225 (by decide) ?_
            exact c_R_step_300 hX fx HR h hw (lv_sub hl [6, 4, 3] rfl)
        · replace h := h.1 c9
          refine lv_aload_n (pc := 185) hx hb d_R_step_185 rfl (lv_at hl 6 rfl) ?_
          refine gR_0_accumulators (pc := 186) fx hw kw_1068 d_R_step_186 ?_
          refine lv_iload (pc := 189) hx hb d_R_step_189 (lv_at hl 0 rfl) ?_
          refine lv_aload_n (pc := 191) hx hb d_R_step_191 rfl (lv_at hl 6 rfl) ?_
          refine gR_0_memory (pc := 192) fx hw kw_1067 d_R_step_192 ?_
          refine lv_iload (pc := 195) hx hb d_R_step_195 (lv_at hl 1 rfl) ?_
          refine alR_1 (pc := 197) fx hw h.1 d_R_step_197 ?_
          replace h := h.2
          refine asR_2 (pc := 198) fx hw h.1 d_R_step_198 (fun σ_15 e9 H locs hw => ?_)
          replace h := nm_u h.2 e9
          clear e9
          refine lv_goto (pc := 199) (tgt := 300) hx hb d_R_step_199 (by decide) ?_
          exact c_R_step_300 hX fx HR h hw (lv_sub hl [6, 4, 3] rfl)
      · replace h := h.2 c9
        refine lv_aload_n (pc := 159) hx hb d_R_step_159 rfl (lv_at hl 5 rfl) ?_
        refine lv_iload (pc := 160) hx hb d_R_step_160 (lv_at hl 1 rfl) ?_
        have z9 := h.1
        replace h := h.2
        refine pR_0_justIon (pc := 162) fx hw kw_1073 z9 d_R_step_162 (fun σ_16 e9 H locs hw => ?_)
        replace h := nm_u h e9
        clear e9
        refine lv_iconst (pc := 165) (v := 0) hx hb d_R_step_165 (by decide) ?_
        exact HR (bz_n bz_0) d_R_step_166 ⟨bz_0, h⟩ hw
    · replace h := h.1 c9
      refine lv_aload_n (pc := 135) hx hb d_R_step_135 rfl (lv_at hl 4 rfl) ?_
      refine lv_iload_n (pc := 136) hx hb d_R_step_136 rfl (lv_at hl 3 rfl) ?_
      refine cxI (pc := 137) hX fx hw (c_R_devices hX h) cw_R_157 (rcR_0 hw) rfl ⟨Nat.le_of_ble_eq_true rfl, Nat.le_of_ble_eq_true rfl⟩ hl.1 (Nat.le_of_ble_eq_true rfl) d_R_step_137 ⟨Nat.zero_le _, Nat.zero_le _⟩ (fun r_18 σ_17 H locs hw h => ?_)
      have zr_18 := h.1
      replace h := h.2
      refine lv_istore (pc := 140) (lv' := [(4, .int r_18), (5, .int x5_8), (3, .int x3_7), (2, .int x2_6), (0, .ref (a 0))]) hx hb d_R_step_140 hl (by decide) rfl (fun ls hl => ?_)
      refine lv_goto (pc := 142) (tgt := 300) hx hb d_R_step_142 (by decide) ?_
      exact c_R_step_300 hX fx HR h hw (lv_sub hl [4, 2, 0] rfl)
  · replace h := h.2 c9
    refine lv_aload_n (pc := 116) hx hb d_R_step_116 rfl (lv_at hl 4 rfl) ?_
    refine lv_iload_n (pc := 117) hx hb d_R_step_117 rfl (lv_at hl 3 rfl) ?_
    refine cxI (pc := 118) hX fx hw (c_R_reckons hX h) cw_R_154 (rcR_0 hw) rfl ⟨Nat.le_of_ble_eq_true rfl, Nat.le_of_ble_eq_true rfl⟩ hl.1 (Nat.le_of_ble_eq_true rfl) d_R_step_118 ⟨Nat.zero_le _, Nat.zero_le _⟩ (fun r_20 σ_19 H locs hw h => ?_)
    have zr_20 := h.1
    replace h := h.2
    refine lv_istore (pc := 121) (lv' := [(4, .int r_20), (5, .int x5_8), (3, .int x3_7), (2, .int x2_6), (0, .ref (a 0))]) hx hb d_R_step_121 hl (by decide) rfl (fun ls hl => ?_)
    refine lv_goto (pc := 123) (tgt := 300) hx hb d_R_step_123 (by decide) ?_
    exact c_R_step_300 hX fx HR h hw (lv_sub hl [4, 2, 0] rfl)
set_option maxHeartbeats 4000000 in
set_option maxRecDepth 100000 in
theorem c_R_step_26 (hX : XT X) (fx : CallFix p m c b_R_step 8 s args GW RNR) {post : Int32 → SS → Prop} (HR : RetI p l e r_R_step s m args below meth c Q D vcl (tyl cA) (wR cA a) X A b_R_step .boolean (fun r σ => bz r ∧ post r σ)) {σ : SS} {s0 : Int32} {H : Heap} {locs : List Loc} {ls : Array Slot} (h : f_R_step_26 post σ s0) (hw : CX D vcl (tyl cA) (wR cA a σ) X A s H locs) (hl : lv_has ls 8 [(0, .ref (a 0))]) : W p l e r_R_step s m args below meth c H locs 0 0 Q (F0 m 26 ls [.int s0]) := by
  have hx := fx.1
  have hb := fx.2.1
  unfold f_R_step_26 at h
  refine lv_istore_n (pc := 26) (lv' := [(1, .int s0), (0, .ref (a 0))]) hx hb d_R_step_26 rfl hl (by decide) rfl (fun ls hl => ?_)
  refine lv_iload_n (pc := 27) hx hb d_R_step_27 rfl (lv_at hl 0 rfl) ?_
  refine lv_if_eq (pc := 28) (tgt := 76) hx hb d_R_step_28 (by decide) (fun c9 => ?_) (fun c9 => ?_)
  · replace h := h.1 c9
    exact c_R_step_76 hX fx HR h hw (lv_sub hl [1] rfl)
  · replace h := h.2 c9
    refine lv_aload_n (pc := 31) hx hb d_R_step_31 rfl (lv_at hl 1 rfl) ?_
    refine lv_dup (pc := 32) hx hb d_R_step_32 rfl ?_
    refine gR_0_interrupts (pc := 33) fx hw kw_1076 d_R_step_33 ?_
    refine lv_iconst (pc := 36) (v := 1) hx hb d_R_step_36 (by decide) ?_
    refine lv_iadd (pc := 37) hx hb d_R_step_37 ?_
    refine pR_0_interrupts (pc := 38) fx hw kw_1076 d_R_step_38 (fun σ_21 e9 H locs hw => ?_)
    replace h := nm_u h e9
    clear e9
    refine lv_aload_n (pc := 41) hx hb d_R_step_41 rfl (lv_at hl 1 rfl) ?_
    refine gR_0_memory (pc := 42) fx hw kw_1067 d_R_step_42 ?_
    refine lv_iconst (pc := 45) (v := 0) hx hb d_R_step_45 (by decide) ?_
    refine lv_aload_n (pc := 46) hx hb d_R_step_46 rfl (lv_at hl 1 rfl) ?_
    refine gR_0_pc (pc := 47) fx hw kw_1070 d_R_step_47 ?_
    refine asR_1 (pc := 50) fx hw h.1 d_R_step_50 (fun σ_22 e9 H locs hw => ?_)
    replace h := nm_u h.2 e9
    clear e9
    refine lv_aload_n (pc := 51) hx hb d_R_step_51 rfl (lv_at hl 1 rfl) ?_
    refine lv_iconst (pc := 52) (v := 0) hx hb d_R_step_52 (by decide) ?_
    refine pR_0_ion (pc := 53) fx hw kw_1072 bz_0 d_R_step_53 (fun σ_23 e9 H locs hw => ?_)
    replace h := nm_u h e9
    clear e9
    refine lv_aload_n (pc := 56) hx hb d_R_step_56 rfl (lv_at hl 1 rfl) ?_
    refine lv_iconst (pc := 57) (v := 1) hx hb d_R_step_57 (by decide) ?_
    refine cxI (pc := 58) hX fx hw (c_R_chase hX h) cw_R_139 (rcR_0 hw) rfl ⟨Nat.le_of_ble_eq_true rfl, Nat.le_of_ble_eq_true rfl⟩ hl.1 (Nat.le_of_ble_eq_true rfl) d_R_step_58 ⟨Nat.zero_le _, Nat.zero_le _⟩ (fun r_25 σ_24 H locs hw h => ?_)
    refine lv_istore_n (pc := 61) (lv' := [(2, .int r_25), (1, .int s0), (0, .ref (a 0))]) hx hb d_R_step_61 rfl hl (by decide) rfl (fun ls hl => ?_)
    refine lv_aload_n (pc := 62) hx hb d_R_step_62 rfl (lv_at hl 2 rfl) ?_
    refine gR_0_lost (pc := 63) fx hw kw_1077 d_R_step_63 ?_
    refine lv_if_eq (pc := 66) (tgt := 71) hx hb d_R_step_66 (by decide) (fun c9 => ?_) (fun c9 => ?_)
    · replace h := h.1 c9
      refine lv_aload_n (pc := 71) hx hb d_R_step_71 rfl (lv_at hl 2 rfl) ?_
      refine lv_iload_n (pc := 72) hx hb d_R_step_72 rfl (lv_at hl 0 rfl) ?_
      refine pR_0_pc (pc := 73) fx hw kw_1070 d_R_step_73 (fun σ_26 e9 H locs hw => ?_)
      replace h := nm_u h e9
      clear e9
      exact c_R_step_76 hX fx HR h hw (lv_sub hl [2] rfl)
    · replace h := h.2 c9
      refine lv_iconst (pc := 69) (v := 0) hx hb d_R_step_69 (by decide) ?_
      exact HR (bz_n bz_0) d_R_step_70 ⟨bz_0, h⟩ hw
set_option maxHeartbeats 4000000 in
set_option maxRecDepth 100000 in
theorem e_R_step (hX : XT X) (fx : CallFix p m c b_R_step 8 s args GW RNR) {post : Int32 → SS → Prop} (HR : RetI p l e r_R_step s m args below meth c Q D vcl (tyl cA) (wR cA a) X A b_R_step .boolean (fun r σ => bz r ∧ post r σ)) {σ : SS} {H : Heap} {locs : List Loc} {ls : Array Slot} (h : f_R_step post σ) (hw : CX D vcl (tyl cA) (wR cA a σ) X A s H locs) (hl : lv_has ls 8 [(0, .ref (a 0))]) : W p l e r_R_step s m args below meth c H locs 0 0 Q (F0 m 0 ls []) := by
  have hx := fx.1
  have hb := fx.2.1
  unfold f_R_step at h
  refine lv_aload_n (pc := 0) hx hb d_R_step_0 rfl (lv_at hl 0 rfl) ?_
  refine gR_0_ion (pc := 1) fx hw kw_1072 d_R_step_1 ?_
  refine lv_if_eq (pc := 4) (tgt := 25) hx hb d_R_step_4 (by decide) (fun c9 => ?_) (fun c9 => ?_)
  · replace h := h.1 c9
    refine lv_iconst (pc := 25) (v := 0) hx hb d_R_step_25 (by decide) ?_
    exact c_R_step_26 hX fx HR h hw (lv_sub hl [0] rfl)
  · replace h := h.2 c9
    refine lv_aload_n (pc := 7) hx hb d_R_step_7 rfl (lv_at hl 0 rfl) ?_
    refine gR_0_justIon (pc := 8) fx hw kw_1073 d_R_step_8 ?_
    refine lv_if_ne (pc := 11) (tgt := 25) hx hb d_R_step_11 (by decide) (fun c9 => ?_) (fun c9 => ?_)
    · replace h := h.2 c9
      refine lv_iconst (pc := 25) (v := 0) hx hb d_R_step_25 (by decide) ?_
      exact c_R_step_26 hX fx HR h hw (lv_sub hl [0] rfl)
    · replace h := h.1 c9
      refine lv_aload_n (pc := 14) hx hb d_R_step_14 rfl (lv_at hl 0 rfl) ?_
      refine cxI (pc := 15) hX fx hw (c_R_asking hX h) cw_R_146 (rcR_0 hw) rfl ⟨Nat.le_of_ble_eq_true rfl, Nat.le_of_ble_eq_true rfl⟩ hl.1 (Nat.le_of_ble_eq_true rfl) d_R_step_15 ⟨Nat.zero_le _, Nat.zero_le _⟩ (fun r_28 σ_27 H locs hw h => ?_)
      refine lv_if_le (pc := 18) (tgt := 25) hx hb d_R_step_18 (by decide) (fun c9 => ?_) (fun c9 => ?_)
      · replace h := h.1 c9
        refine lv_iconst (pc := 25) (v := 0) hx hb d_R_step_25 (by decide) ?_
        exact c_R_step_26 hX fx HR h hw (lv_sub hl [0] rfl)
      · replace h := h.2 c9
        refine lv_iconst (pc := 21) (v := 1) hx hb d_R_step_21 (by decide) ?_
        refine lv_goto (pc := 22) (tgt := 26) hx hb d_R_step_22 (by decide) ?_
        exact c_R_step_26 hX fx HR h hw (lv_sub hl [0] rfl)
end
theorem c_R_step {l : Launch} {D : va_G} {cA : Nat → ClassId} {a : Nat → Nat} {X : (Nat → Prop) → State → Prop} (hX : XT X) {σ : SS} {post : Int32 → SS → Prop} (h : f_R_step post σ) : mI l y_R_step b_R_step 8 (some .boolean) 4 94 D vcl (tyl cA) (wR cA a) X σ [.ref (a 0)] (fun r σ => bz r ∧ post r σ) := met_I (by decide) (Nat.le_of_ble_eq_true rfl) (fun p e s m args below meth c A Q fx HR H ls hw hl => e_R_step hX fx HR h hw hl)
abbrev r_R_run : Room := { frames := 5, cells := 0, slots := 0, locals := 121 }
def f_R_run_38 (post : Int32 → SS → Prop) : Nat → SS → Int32 → Int32 → Prop
  | 0, _, _, _ => False
  | n + 1, σ, x1, x2 => br (x1 ≤ x2) (post x2 σ) (br ((σ.1 11) = 0) (f_R_step (fun r_2 σ_1 => br (r_2 = 0) (nm (sI σ_1 11 2) fun σ_3 => f_R_run_38 post n σ_3 x1 x2) (nm (x2 + 1) fun x2_4 => f_R_run_38 post n σ_1 x1 x2_4)) σ) (post x2 σ))
def f_R_run_17 (post : Int32 → SS → Prop) (σ : SS) (x1 : Int32) (s0 : Int32) : Prop := f_R_fails (fun r_6 σ_5 => br (r_6 = 0) (nm (sI σ_5 11 0) fun σ_7 => nm (sI σ_7 8 0) fun σ_8 => ∃ n9, f_R_run_38 post n9 σ_8 x1 0) (post 0 σ_5)) σ s0 1
def f_R_run (post : Int32 → SS → Prop) (σ : SS) (x1 : Int32) : Prop := f_R_within (fun r_10 σ_9 => br (r_10 = 0) (f_R_run_17 post σ_9 x1 1) (f_R_run_17 post σ_9 x1 0)) σ x1 1 5000
section
variable {p : Program} {l : Launch} {e : Env} {s : State} {m : MethodId} {args : Array Value} {below : List Frame} {meth : Method} {c : Code} {Q : State → Prop} {D : va_G} {cA : Nat → ClassId} {a : Nat → Nat} {X : (Nat → Prop) → State → Prop} {A : Nat → Prop}
set_option maxHeartbeats 4000000 in
set_option maxRecDepth 100000 in
theorem c_R_run_38 (hX : XT X) (fx : CallFix p m c b_R_run 3 s args GW RNR) {post : Int32 → SS → Prop} (HR : RetI p l e r_R_run s m args below meth c Q D vcl (tyl cA) (wR cA a) X A b_R_run .int post) : ∀ (n : Nat) {σ : SS} {x1 : Int32} {x2 : Int32} {H : Heap} {locs : List Loc} {ls : Array Slot}, f_R_run_38 post n σ x1 x2 → CX D vcl (tyl cA) (wR cA a σ) X A s H locs → lv_has ls 3 [(0, .ref (a 0)), (1, .int x1), (2, .int x2)] → W p l e r_R_run s m args below meth c H locs 0 0 Q (F0 m 38 ls []) := by
  have hx := fx.1
  have hb := fx.2.1
  intro n
  induction n with
  | zero => intro σ x1 x2 H locs ls h; exact h.elim
  | succ n ih =>
    intro σ x1 x2 H locs ls h hw hl
    have K38 := @ih
    unfold f_R_run_38 at h
    refine lv_iload_n (pc := 38) hx hb d_R_run_38 rfl (lv_at hl 2 rfl) ?_
    refine lv_iload_n (pc := 39) hx hb d_R_run_39 rfl (lv_at hl 1 rfl) ?_
    refine lv_icmp_ge (pc := 40) (tgt := 71) hx hb d_R_run_40 (by decide) (fun c9 => ?_) (fun c9 => ?_)
    · replace h := h.1 c9
      refine lv_iload_n (pc := 71) hx hb d_R_run_71 rfl (lv_at hl 2 rfl) ?_
      exact HR rfl d_R_run_72 h hw
    · replace h := h.2 c9
      refine lv_aload_n (pc := 43) hx hb d_R_run_43 rfl (lv_at hl 0 rfl) ?_
      refine gR_0_why (pc := 44) fx hw kw_1086 d_R_run_44 ?_
      refine lv_if_ne (pc := 47) (tgt := 71) hx hb d_R_run_47 (by decide) (fun c9 => ?_) (fun c9 => ?_)
      · replace h := h.2 c9
        refine lv_iload_n (pc := 71) hx hb d_R_run_71 rfl (lv_at hl 2 rfl) ?_
        exact HR rfl d_R_run_72 h hw
      · replace h := h.1 c9
        refine lv_aload_n (pc := 50) hx hb d_R_run_50 rfl (lv_at hl 0 rfl) ?_
        refine cxI (pc := 51) hX fx hw (c_R_step hX h) cw_R_166 (rcR_0 hw) rfl ⟨Nat.le_of_ble_eq_true rfl, Nat.le_of_ble_eq_true rfl⟩ hl.1 (Nat.le_of_ble_eq_true rfl) d_R_run_51 ⟨Nat.zero_le _, Nat.zero_le _⟩ (fun r_2 σ_1 H locs hw h => ?_)
        have zr_2 := h.1
        replace h := h.2
        refine lv_if_eq (pc := 54) (tgt := 63) hx hb d_R_run_54 (by decide) (fun c9 => ?_) (fun c9 => ?_)
        · replace h := h.1 c9
          refine lv_aload_n (pc := 63) hx hb d_R_run_63 rfl (lv_at hl 0 rfl) ?_
          refine lv_iconst (pc := 64) (v := 2) hx hb d_R_run_64 (by decide) ?_
          refine pR_0_why (pc := 65) fx hw kw_1086 d_R_run_65 (fun σ_3 e9 H locs hw => ?_)
          replace h := nm_u h e9
          clear e9
          refine lv_goto (pc := 68) (tgt := 38) hx hb d_R_run_68 (by decide) ?_
          exact K38 h hw (lv_sub hl [0, 1, 2] rfl)
        · replace h := h.2 c9
          obtain ⟨x2_4, e9⟩ : ∃ z : Int32, z = x2 + 1 := ⟨_, rfl⟩
          replace h := nm_u h e9
          refine lv_iinc (pc := 57) (v := x2_4) (lv' := [(2, .int x2_4), (0, .ref (a 0)), (1, .int x1)]) hx hb d_R_run_57 hl (k := 2) rfl (by rw [e9]; rfl) (by decide) rfl (fun ls hl => ?_)
          clear e9
          refine lv_goto (pc := 60) (tgt := 38) hx hb d_R_run_60 (by decide) ?_
          exact K38 h hw (lv_sub hl [1, 2, 0] rfl)
set_option maxHeartbeats 4000000 in
set_option maxRecDepth 100000 in
theorem c_R_run_17 (hX : XT X) (fx : CallFix p m c b_R_run 3 s args GW RNR) {post : Int32 → SS → Prop} (HR : RetI p l e r_R_run s m args below meth c Q D vcl (tyl cA) (wR cA a) X A b_R_run .int post) {σ : SS} {x1 : Int32} {s0 : Int32} {H : Heap} {locs : List Loc} {ls : Array Slot} (h : f_R_run_17 post σ x1 s0) (hw : CX D vcl (tyl cA) (wR cA a σ) X A s H locs) (hl : lv_has ls 3 [(0, .ref (a 0)), (1, .int x1)]) : W p l e r_R_run s m args below meth c H locs 0 0 Q (F0 m 17 ls [.int s0, .ref (a 0)]) := by
  have hx := fx.1
  have hb := fx.2.1
  unfold f_R_run_17 at h
  refine lv_iconst (pc := 17) (v := 1) hx hb d_R_run_17 (by decide) ?_
  refine cxI (pc := 18) hX fx hw (c_R_fails hX h) cw_R_77 (rcR_0 hw) rfl ⟨Nat.le_of_ble_eq_true rfl, Nat.le_of_ble_eq_true rfl⟩ hl.1 (Nat.le_of_ble_eq_true rfl) d_R_run_18 ⟨Nat.zero_le _, Nat.zero_le _⟩ (fun r_6 σ_5 H locs hw h => ?_)
  have zr_6 := h.1
  replace h := h.2
  refine lv_if_eq (pc := 21) (tgt := 26) hx hb d_R_run_21 (by decide) (fun c9 => ?_) (fun c9 => ?_)
  · replace h := h.1 c9
    refine lv_aload_n (pc := 26) hx hb d_R_run_26 rfl (lv_at hl 0 rfl) ?_
    refine lv_iconst (pc := 27) (v := 0) hx hb d_R_run_27 (by decide) ?_
    refine pR_0_why (pc := 28) fx hw kw_1086 d_R_run_28 (fun σ_7 e9 H locs hw => ?_)
    replace h := nm_u h e9
    clear e9
    refine lv_aload_n (pc := 31) hx hb d_R_run_31 rfl (lv_at hl 0 rfl) ?_
    refine lv_iconst (pc := 32) (v := 0) hx hb d_R_run_32 (by decide) ?_
    refine pR_0_lost (pc := 33) fx hw kw_1077 bz_0 d_R_run_33 (fun σ_8 e9 H locs hw => ?_)
    replace h := nm_u h e9
    clear e9
    refine lv_iconst (pc := 36) (v := 0) hx hb d_R_run_36 (by decide) ?_
    refine lv_istore_n (pc := 37) (lv' := [(2, .int 0), (0, .ref (a 0)), (1, .int x1)]) hx hb d_R_run_37 rfl hl (by decide) rfl (fun ls hl => ?_)
    obtain ⟨n9, h⟩ := h
    exact c_R_run_38 hX fx HR n9 h hw (lv_sub hl [1, 2, 0] rfl)
  · replace h := h.2 c9
    refine lv_iconst (pc := 24) (v := 0) hx hb d_R_run_24 (by decide) ?_
    exact HR rfl d_R_run_25 h hw
set_option maxHeartbeats 4000000 in
set_option maxRecDepth 100000 in
theorem e_R_run (hX : XT X) (fx : CallFix p m c b_R_run 3 s args GW RNR) {post : Int32 → SS → Prop} (HR : RetI p l e r_R_run s m args below meth c Q D vcl (tyl cA) (wR cA a) X A b_R_run .int post) {σ : SS} {x1 : Int32} {H : Heap} {locs : List Loc} {ls : Array Slot} (h : f_R_run post σ x1) (hw : CX D vcl (tyl cA) (wR cA a σ) X A s H locs) (hl : lv_has ls 3 [(0, .ref (a 0)), (1, .int x1)]) : W p l e r_R_run s m args below meth c H locs 0 0 Q (F0 m 0 ls []) := by
  have hx := fx.1
  have hb := fx.2.1
  unfold f_R_run at h
  refine lv_aload_n (pc := 0) hx hb d_R_run_0 rfl (lv_at hl 0 rfl) ?_
  refine lv_iload_n (pc := 1) hx hb d_R_run_1 rfl (lv_at hl 1 rfl) ?_
  refine lv_iconst (pc := 2) (v := 1) hx hb d_R_run_2 (by decide) ?_
  refine lv_sipush (pc := 3) (v := 5000) hx hb d_R_run_3 (by decide) ?_
  refine cxSI (pc := 6) hX fx hw (c_R_within hX h) cw_R_72 rfl ⟨Nat.le_of_ble_eq_true rfl, Nat.le_of_ble_eq_true rfl⟩ hl.1 (Nat.le_of_ble_eq_true rfl) d_R_run_6 ⟨Nat.zero_le _, Nat.zero_le _⟩ (fun r_10 σ_9 H locs hw h => ?_)
  have zr_10 := h.1
  replace h := h.2
  refine lv_if_ne (pc := 9) (tgt := 16) hx hb d_R_run_9 (by decide) (fun c9 => ?_) (fun c9 => ?_)
  · replace h := h.2 c9
    refine lv_iconst (pc := 16) (v := 0) hx hb d_R_run_16 (by decide) ?_
    exact c_R_run_17 hX fx HR h hw (lv_sub hl [0, 1] rfl)
  · replace h := h.1 c9
    refine lv_iconst (pc := 12) (v := 1) hx hb d_R_run_12 (by decide) ?_
    refine lv_goto (pc := 13) (tgt := 17) hx hb d_R_run_13 (by decide) ?_
    exact c_R_run_17 hX fx HR h hw (lv_sub hl [0, 1] rfl)
end
theorem c_R_run {l : Launch} {D : va_G} {cA : Nat → ClassId} {a : Nat → Nat} {X : (Nat → Prop) → State → Prop} (hX : XT X) {σ : SS} {post : Int32 → SS → Prop} {x1 : Int32} (h : f_R_run post σ x1) : mI l y_R_run b_R_run 3 (some .int) 5 121 D vcl (tyl cA) (wR cA a) X σ [.ref (a 0), .int x1] post := met_I (by decide) (Nat.le_of_ble_eq_true rfl) (fun p e s m args below meth c A Q fx HR H ls hw hl => e_R_run hX fx HR h hw hl)
abbrev r_R_why : Room := { frames := 0, cells := 0, slots := 0, locals := 0 }
def f_R_why (post : Int32 → SS → Prop) (σ : SS) : Prop := nm (sI σ 29 0) fun σ_1 => post (σ_1.1 11) σ_1
section
variable {p : Program} {l : Launch} {e : Env} {s : State} {m : MethodId} {args : Array Value} {below : List Frame} {meth : Method} {c : Code} {Q : State → Prop} {D : va_G} {cA : Nat → ClassId} {a : Nat → Nat} {X : (Nat → Prop) → State → Prop} {A : Nat → Prop}
set_option maxHeartbeats 4000000 in
set_option maxRecDepth 100000 in
theorem e_R_why (hX : XT X) (fx : CallFix p m c b_R_why 1 s args GW RNR) {post : Int32 → SS → Prop} (HR : RetI p l e r_R_why s m args below meth c Q D vcl (tyl cA) (wR cA a) X A b_R_why .int post) {σ : SS} {H : Heap} {locs : List Loc} {ls : Array Slot} (h : f_R_why post σ) (hw : CX D vcl (tyl cA) (wR cA a σ) X A s H locs) (hl : lv_has ls 1 [(0, .ref (a 0))]) : W p l e r_R_why s m args below meth c H locs 0 0 Q (F0 m 0 ls []) := by
  have hx := fx.1
  have hb := fx.2.1
  unfold f_R_why at h
  refine lv_aload_n (pc := 0) hx hb d_R_why_0 rfl (lv_at hl 0 rfl) ?_
  refine lv_iconst (pc := 1) (v := 0) hx hb d_R_why_1 (by decide) ?_
  refine pR_0_thrown (pc := 2) fx hw kw_1115 d_R_why_2 (fun σ_1 e9 H locs hw => ?_)
  replace h := nm_u h e9
  clear e9
  refine lv_aload_n (pc := 5) hx hb d_R_why_5 rfl (lv_at hl 0 rfl) ?_
  refine gR_0_why (pc := 6) fx hw kw_1086 d_R_why_6 ?_
  exact HR rfl d_R_why_9 h hw
end
theorem c_R_why {l : Launch} {D : va_G} {cA : Nat → ClassId} {a : Nat → Nat} {X : (Nat → Prop) → State → Prop} (hX : XT X) {σ : SS} {post : Int32 → SS → Prop} (h : f_R_why post σ) : mI l y_R_why b_R_why 1 (some .int) 0 0 D vcl (tyl cA) (wR cA a) X σ [.ref (a 0)] post := met_I (by decide) (Nat.le_of_ble_eq_true rfl) (fun p e s m args below meth c A Q fx HR H ls hw hl => e_R_why hX fx HR h hw hl)
abbrev r_R_feed : Room := { frames := 1, cells := 0, slots := 0, locals := 22 }
def f_R_feed_84 (post : Int32 → SS → Prop) (k31 : SS → Int32 → Int32 → Int32 → Int32 → Int32 → Int32 → Prop) (σ : SS) (x1 : Int32) (x2 : Int32) (x3 : Int32) (x4 : Int32) (x5 : Int32) (x6 : Int32) (s0 : Int32) : Prop := vp_in ((σ.1 12) + x6) 6000 ∧ nm (sA σ 9 ((σ.1 12) + x6).toNatClampNeg (vp_nar .byte ((s0 >>> ((24 - (8 * (x6 - x6 / 4 * 4))) &&& 31)).toInt8.toInt32))) fun σ_1 => nm (x6 + 1) fun x6_2 => k31 σ_1 x1 x2 x3 x4 x5 x6_2
def f_R_feed_31 (post : Int32 → SS → Prop) : Nat → SS → Int32 → Int32 → Int32 → Int32 → Int32 → Int32 → Prop
  | 0, _, _, _, _, _, _, _ => False
  | n + 1, σ, x1, x2, x3, x4, x5, x6 => br (20 ≤ x6) (nm (sI σ 12 ((σ.1 12) + 20)) fun σ_3 => post (σ_3.1 12) σ_3) (br (4 ≤ x6) (br (8 ≤ x6) (br (12 ≤ x6) (br (16 ≤ x6) (f_R_feed_84 post (f_R_feed_31 post n) σ x1 x2 x3 x4 x5 x6 x5) (f_R_feed_84 post (f_R_feed_31 post n) σ x1 x2 x3 x4 x5 x6 x4)) (f_R_feed_84 post (f_R_feed_31 post n) σ x1 x2 x3 x4 x5 x6 x3)) (f_R_feed_84 post (f_R_feed_31 post n) σ x1 x2 x3 x4 x5 x6 x2)) (f_R_feed_84 post (f_R_feed_31 post n) σ x1 x2 x3 x4 x5 x6 x1))
def f_R_feed_19 (post : Int32 → SS → Prop) (σ : SS) (x1 : Int32) (x2 : Int32) (x3 : Int32) (x4 : Int32) (x5 : Int32) (s0 : Int32) : Prop := f_R_fails (fun r_5 σ_4 => br (r_5 = 0) (∃ n9, f_R_feed_31 post n9 σ_4 x1 x2 x3 x4 x5 0) (post 0 σ_4)) σ s0 1
def f_R_feed (post : Int32 → SS → Prop) (σ : SS) (x1 : Int32) (x2 : Int32) (x3 : Int32) (x4 : Int32) (x5 : Int32) : Prop := br (((σ.1 12) + 20) ≤ 6000) (f_R_feed_19 post σ x1 x2 x3 x4 x5 0) (f_R_feed_19 post σ x1 x2 x3 x4 x5 1)
section
variable {p : Program} {l : Launch} {e : Env} {s : State} {m : MethodId} {args : Array Value} {below : List Frame} {meth : Method} {c : Code} {Q : State → Prop} {D : va_G} {cA : Nat → ClassId} {a : Nat → Nat} {X : (Nat → Prop) → State → Prop} {A : Nat → Prop}
set_option maxHeartbeats 4000000 in
set_option maxRecDepth 100000 in
theorem c_R_feed_84 (hX : XT X) (fx : CallFix p m c b_R_feed 8 s args GW RNR) {post : Int32 → SS → Prop} (HR : RetI p l e r_R_feed s m args below meth c Q D vcl (tyl cA) (wR cA a) X A b_R_feed .int post) {k31 : SS → Int32 → Int32 → Int32 → Int32 → Int32 → Int32 → Prop} (K31 : ∀ {σ : SS} {x1 : Int32} {x2 : Int32} {x3 : Int32} {x4 : Int32} {x5 : Int32} {x6 : Int32} {H : Heap} {locs : List Loc} {ls : Array Slot}, k31 σ x1 x2 x3 x4 x5 x6 → CX D vcl (tyl cA) (wR cA a σ) X A s H locs → lv_has ls 8 [(0, .ref (a 0)), (1, .int x1), (2, .int x2), (3, .int x3), (4, .int x4), (5, .int x5), (6, .int x6)] → W p l e r_R_feed s m args below meth c H locs 0 0 Q (F0 m 31 ls [])) {σ : SS} {x1 : Int32} {x2 : Int32} {x3 : Int32} {x4 : Int32} {x5 : Int32} {x6 : Int32} {s0 : Int32} {H : Heap} {locs : List Loc} {ls : Array Slot} (h : f_R_feed_84 post k31 σ x1 x2 x3 x4 x5 x6 s0) (hw : CX D vcl (tyl cA) (wR cA a σ) X A s H locs) (hl : lv_has ls 8 [(0, .ref (a 0)), (1, .int x1), (2, .int x2), (3, .int x3), (4, .int x4), (5, .int x5), (6, .int x6)]) : W p l e r_R_feed s m args below meth c H locs 0 0 Q (F0 m 84 ls [.int s0]) := by
  have hx := fx.1
  have hb := fx.2.1
  unfold f_R_feed_84 at h
  refine lv_istore (pc := 84) (lv' := [(7, .int s0), (0, .ref (a 0)), (1, .int x1), (2, .int x2), (3, .int x3), (4, .int x4), (5, .int x5), (6, .int x6)]) hx hb d_R_feed_84 hl (by decide) rfl (fun ls hl => ?_)
  refine lv_aload_n (pc := 86) hx hb d_R_feed_86 rfl (lv_at hl 1 rfl) ?_
  refine gR_0_text (pc := 87) fx hw kw_1087 d_R_feed_87 ?_
  refine lv_aload_n (pc := 90) hx hb d_R_feed_90 rfl (lv_at hl 1 rfl) ?_
  refine gR_0_length (pc := 91) fx hw kw_1088 d_R_feed_91 ?_
  refine lv_iload (pc := 94) hx hb d_R_feed_94 (lv_at hl 7 rfl) ?_
  refine lv_iadd (pc := 96) hx hb d_R_feed_96 ?_
  refine lv_iload (pc := 97) hx hb d_R_feed_97 (lv_at hl 0 rfl) ?_
  refine lv_bipush (pc := 99) (v := 24) hx hb d_R_feed_99 (by decide) ?_
  refine lv_bipush (pc := 101) (v := 8) hx hb d_R_feed_101 (by decide) ?_
  refine lv_iload (pc := 103) hx hb d_R_feed_103 (lv_at hl 7 rfl) ?_
  refine lv_iconst (pc := 105) (v := 4) hx hb d_R_feed_105 (by decide) ?_
  refine lv_irem (pc := 106) hx hb d_R_feed_106 (by decide) ?_
  refine lv_imul (pc := 107) hx hb d_R_feed_107 ?_
  refine lv_isub (pc := 108) hx hb d_R_feed_108 ?_
  refine lv_ishr (pc := 109) hx hb d_R_feed_109 ?_
  refine lv_i2b (pc := 110) hx hb d_R_feed_110 rfl ?_
  refine asR_9 (pc := 111) fx hw h.1 d_R_feed_111 (fun σ_1 e9 H locs hw => ?_)
  replace h := nm_u h.2 e9
  clear e9
  obtain ⟨x6_2, e9⟩ : ∃ z : Int32, z = x6 + 1 := ⟨_, rfl⟩
  replace h := nm_u h e9
  refine lv_iinc (pc := 112) (v := x6_2) (lv' := [(6, .int x6_2), (7, .int s0), (0, .ref (a 0)), (1, .int x1), (2, .int x2), (3, .int x3), (4, .int x4), (5, .int x5)]) hx hb d_R_feed_112 hl (k := 7) rfl (by rw [e9]; rfl) (by decide) rfl (fun ls hl => ?_)
  clear e9
  refine lv_goto (pc := 115) (tgt := 31) hx hb d_R_feed_115 (by decide) ?_
  exact K31 h hw (lv_sub hl [2, 3, 4, 5, 6, 7, 0] rfl)
set_option maxHeartbeats 4000000 in
set_option maxRecDepth 100000 in
theorem c_R_feed_31 (hX : XT X) (fx : CallFix p m c b_R_feed 8 s args GW RNR) {post : Int32 → SS → Prop} (HR : RetI p l e r_R_feed s m args below meth c Q D vcl (tyl cA) (wR cA a) X A b_R_feed .int post) : ∀ (n : Nat) {σ : SS} {x1 : Int32} {x2 : Int32} {x3 : Int32} {x4 : Int32} {x5 : Int32} {x6 : Int32} {H : Heap} {locs : List Loc} {ls : Array Slot}, f_R_feed_31 post n σ x1 x2 x3 x4 x5 x6 → CX D vcl (tyl cA) (wR cA a σ) X A s H locs → lv_has ls 8 [(0, .ref (a 0)), (1, .int x1), (2, .int x2), (3, .int x3), (4, .int x4), (5, .int x5), (6, .int x6)] → W p l e r_R_feed s m args below meth c H locs 0 0 Q (F0 m 31 ls []) := by
  have hx := fx.1
  have hb := fx.2.1
  intro n
  induction n with
  | zero => intro σ x1 x2 x3 x4 x5 x6 H locs ls h; exact h.elim
  | succ n ih =>
    intro σ x1 x2 x3 x4 x5 x6 H locs ls h hw hl
    have K31 := @ih
    unfold f_R_feed_31 at h
    refine lv_iload (pc := 31) hx hb d_R_feed_31 (lv_at hl 6 rfl) ?_
    refine lv_bipush (pc := 33) (v := 20) hx hb d_R_feed_33 (by decide) ?_
    refine lv_icmp_ge (pc := 35) (tgt := 118) hx hb d_R_feed_35 (by decide) (fun c9 => ?_) (fun c9 => ?_)
    · replace h := h.1 c9
      refine lv_aload_n (pc := 118) hx hb d_R_feed_118 rfl (lv_at hl 0 rfl) ?_
      refine lv_dup (pc := 119) hx hb d_R_feed_119 rfl ?_
      refine gR_0_length (pc := 120) fx hw kw_1088 d_R_feed_120 ?_
      refine lv_bipush (pc := 123) (v := 20) hx hb d_R_feed_123 (by decide) ?_
      refine lv_iadd (pc := 125) hx hb d_R_feed_125 ?_
      refine pR_0_length (pc := 126) fx hw kw_1088 d_R_feed_126 (fun σ_3 e9 H locs hw => ?_)
      replace h := nm_u h e9
      clear e9
      refine lv_aload_n (pc := 129) hx hb d_R_feed_129 rfl (lv_at hl 0 rfl) ?_
      refine gR_0_length (pc := 130) fx hw kw_1088 d_R_feed_130 ?_
      exact HR rfl d_R_feed_133 h hw
    · replace h := h.2 c9
      refine lv_iload (pc := 38) hx hb d_R_feed_38 (lv_at hl 6 rfl) ?_
      refine lv_iconst (pc := 40) (v := 4) hx hb d_R_feed_40 (by decide) ?_
      refine lv_icmp_ge (pc := 41) (tgt := 48) hx hb d_R_feed_41 (by decide) (fun c9 => ?_) (fun c9 => ?_)
      · replace h := h.1 c9
        refine lv_iload (pc := 48) hx hb d_R_feed_48 (lv_at hl 6 rfl) ?_
        refine lv_bipush (pc := 50) (v := 8) hx hb d_R_feed_50 (by decide) ?_
        refine lv_icmp_ge (pc := 52) (tgt := 59) hx hb d_R_feed_52 (by decide) (fun c9 => ?_) (fun c9 => ?_)
        · replace h := h.1 c9
          refine lv_iload (pc := 59) hx hb d_R_feed_59 (lv_at hl 6 rfl) ?_
          refine lv_bipush (pc := 61) (v := 12) hx hb d_R_feed_61 (by decide) ?_
          refine lv_icmp_ge (pc := 63) (tgt := 70) hx hb d_R_feed_63 (by decide) (fun c9 => ?_) (fun c9 => ?_)
          · replace h := h.1 c9
            refine lv_iload (pc := 70) hx hb d_R_feed_70 (lv_at hl 6 rfl) ?_
            refine lv_bipush (pc := 72) (v := 16) hx hb d_R_feed_72 (by decide) ?_
            refine lv_icmp_ge (pc := 74) (tgt := 82) hx hb d_R_feed_74 (by decide) (fun c9 => ?_) (fun c9 => ?_)
            · replace h := h.1 c9
              refine lv_iload (pc := 82) hx hb d_R_feed_82 (lv_at hl 5 rfl) ?_
              exact c_R_feed_84 hX fx HR K31 h hw (lv_sub hl [0, 1, 2, 3, 4, 5, 6] rfl)
            · replace h := h.2 c9
              refine lv_iload (pc := 77) hx hb d_R_feed_77 (lv_at hl 4 rfl) ?_
              refine lv_goto (pc := 79) (tgt := 84) hx hb d_R_feed_79 (by decide) ?_
              exact c_R_feed_84 hX fx HR K31 h hw (lv_sub hl [0, 1, 2, 3, 4, 5, 6] rfl)
          · replace h := h.2 c9
            refine lv_iload_n (pc := 66) hx hb d_R_feed_66 rfl (lv_at hl 3 rfl) ?_
            refine lv_goto (pc := 67) (tgt := 84) hx hb d_R_feed_67 (by decide) ?_
            exact c_R_feed_84 hX fx HR K31 h hw (lv_sub hl [0, 1, 2, 3, 4, 5, 6] rfl)
        · replace h := h.2 c9
          refine lv_iload_n (pc := 55) hx hb d_R_feed_55 rfl (lv_at hl 2 rfl) ?_
          refine lv_goto (pc := 56) (tgt := 84) hx hb d_R_feed_56 (by decide) ?_
          exact c_R_feed_84 hX fx HR K31 h hw (lv_sub hl [0, 1, 2, 3, 4, 5, 6] rfl)
      · replace h := h.2 c9
        refine lv_iload_n (pc := 44) hx hb d_R_feed_44 rfl (lv_at hl 1 rfl) ?_
        refine lv_goto (pc := 45) (tgt := 84) hx hb d_R_feed_45 (by decide) ?_
        exact c_R_feed_84 hX fx HR K31 h hw (lv_sub hl [0, 1, 2, 3, 4, 5, 6] rfl)
set_option maxHeartbeats 4000000 in
set_option maxRecDepth 100000 in
theorem c_R_feed_19 (hX : XT X) (fx : CallFix p m c b_R_feed 8 s args GW RNR) {post : Int32 → SS → Prop} (HR : RetI p l e r_R_feed s m args below meth c Q D vcl (tyl cA) (wR cA a) X A b_R_feed .int post) {σ : SS} {x1 : Int32} {x2 : Int32} {x3 : Int32} {x4 : Int32} {x5 : Int32} {s0 : Int32} {H : Heap} {locs : List Loc} {ls : Array Slot} (h : f_R_feed_19 post σ x1 x2 x3 x4 x5 s0) (hw : CX D vcl (tyl cA) (wR cA a σ) X A s H locs) (hl : lv_has ls 8 [(0, .ref (a 0)), (1, .int x1), (2, .int x2), (3, .int x3), (4, .int x4), (5, .int x5)]) : W p l e r_R_feed s m args below meth c H locs 0 0 Q (F0 m 19 ls [.int s0, .ref (a 0)]) := by
  have hx := fx.1
  have hb := fx.2.1
  unfold f_R_feed_19 at h
  refine lv_iconst (pc := 19) (v := 1) hx hb d_R_feed_19 (by decide) ?_
  refine cxI (pc := 20) hX fx hw (c_R_fails hX h) cw_R_77 (rcR_0 hw) rfl ⟨Nat.le_of_ble_eq_true rfl, Nat.le_of_ble_eq_true rfl⟩ hl.1 (Nat.le_of_ble_eq_true rfl) d_R_feed_20 ⟨Nat.zero_le _, Nat.zero_le _⟩ (fun r_5 σ_4 H locs hw h => ?_)
  have zr_5 := h.1
  replace h := h.2
  refine lv_if_eq (pc := 23) (tgt := 28) hx hb d_R_feed_23 (by decide) (fun c9 => ?_) (fun c9 => ?_)
  · replace h := h.1 c9
    refine lv_iconst (pc := 28) (v := 0) hx hb d_R_feed_28 (by decide) ?_
    refine lv_istore (pc := 29) (lv' := [(6, .int 0), (0, .ref (a 0)), (1, .int x1), (2, .int x2), (3, .int x3), (4, .int x4), (5, .int x5)]) hx hb d_R_feed_29 hl (by decide) rfl (fun ls hl => ?_)
    obtain ⟨n9, h⟩ := h
    exact c_R_feed_31 hX fx HR n9 h hw (lv_sub hl [1, 2, 3, 4, 5, 6, 0] rfl)
  · replace h := h.2 c9
    refine lv_iconst (pc := 26) (v := 0) hx hb d_R_feed_26 (by decide) ?_
    exact HR rfl d_R_feed_27 h hw
set_option maxHeartbeats 4000000 in
set_option maxRecDepth 100000 in
theorem e_R_feed (hX : XT X) (fx : CallFix p m c b_R_feed 8 s args GW RNR) {post : Int32 → SS → Prop} (HR : RetI p l e r_R_feed s m args below meth c Q D vcl (tyl cA) (wR cA a) X A b_R_feed .int post) {σ : SS} {x1 : Int32} {x2 : Int32} {x3 : Int32} {x4 : Int32} {x5 : Int32} {H : Heap} {locs : List Loc} {ls : Array Slot} (h : f_R_feed post σ x1 x2 x3 x4 x5) (hw : CX D vcl (tyl cA) (wR cA a σ) X A s H locs) (hl : lv_has ls 8 [(0, .ref (a 0)), (1, .int x1), (2, .int x2), (3, .int x3), (4, .int x4), (5, .int x5)]) : W p l e r_R_feed s m args below meth c H locs 0 0 Q (F0 m 0 ls []) := by
  have hx := fx.1
  have hb := fx.2.1
  unfold f_R_feed at h
  refine lv_aload_n (pc := 0) hx hb d_R_feed_0 rfl (lv_at hl 0 rfl) ?_
  refine lv_aload_n (pc := 1) hx hb d_R_feed_1 rfl (lv_at hl 0 rfl) ?_
  refine gR_0_length (pc := 2) fx hw kw_1088 d_R_feed_2 ?_
  refine lv_bipush (pc := 5) (v := 20) hx hb d_R_feed_5 (by decide) ?_
  refine lv_iadd (pc := 7) hx hb d_R_feed_7 ?_
  refine lv_sipush (pc := 8) (v := 6000) hx hb d_R_feed_8 (by decide) ?_
  refine lv_icmp_le (pc := 11) (tgt := 18) hx hb d_R_feed_11 (by decide) (fun c9 => ?_) (fun c9 => ?_)
  · replace h := h.1 c9
    refine lv_iconst (pc := 18) (v := 0) hx hb d_R_feed_18 (by decide) ?_
    exact c_R_feed_19 hX fx HR h hw (lv_sub hl [0, 1, 2, 3, 4, 5] rfl)
  · replace h := h.2 c9
    refine lv_iconst (pc := 14) (v := 1) hx hb d_R_feed_14 (by decide) ?_
    refine lv_goto (pc := 15) (tgt := 19) hx hb d_R_feed_15 (by decide) ?_
    exact c_R_feed_19 hX fx HR h hw (lv_sub hl [0, 1, 2, 3, 4, 5] rfl)
end
theorem c_R_feed {l : Launch} {D : va_G} {cA : Nat → ClassId} {a : Nat → Nat} {X : (Nat → Prop) → State → Prop} (hX : XT X) {σ : SS} {post : Int32 → SS → Prop} {x1 : Int32} {x2 : Int32} {x3 : Int32} {x4 : Int32} {x5 : Int32} (h : f_R_feed post σ x1 x2 x3 x4 x5) : mI l y_R_feed b_R_feed 8 (some .int) 1 22 D vcl (tyl cA) (wR cA a) X σ [.ref (a 0), .int x1, .int x2, .int x3, .int x4, .int x5] post := met_I (by decide) (Nat.le_of_ble_eq_true rfl) (fun p e s m args below meth c A Q fx HR H ls hw hl => e_R_feed hX fx HR h hw hl)
abbrev r_R_end : Room := { frames := 1, cells := 0, slots := 0, locals := 22 }
def f_R_end_18 (post : SS → Prop) (σ : SS) (x1 : Int32) (s0 : Int32) : Prop := f_R_fails (fun r_2 σ_1 => br (r_2 = 0) (nm (sI σ_1 12 x1) fun σ_3 => post σ_3) (post σ_1)) σ s0 1
def f_R_end (post : SS → Prop) (σ : SS) (x1 : Int32) : Prop := br (x1 < 0) (f_R_end_18 post σ x1 1) (br (x1 ≤ (σ.1 12)) (f_R_end_18 post σ x1 0) (f_R_end_18 post σ x1 1))
section
variable {p : Program} {l : Launch} {e : Env} {s : State} {m : MethodId} {args : Array Value} {below : List Frame} {meth : Method} {c : Code} {Q : State → Prop} {D : va_G} {cA : Nat → ClassId} {a : Nat → Nat} {X : (Nat → Prop) → State → Prop} {A : Nat → Prop}
set_option maxHeartbeats 4000000 in
set_option maxRecDepth 100000 in
theorem c_R_end_18 (hX : XT X) (fx : CallFix p m c b_R_end 2 s args GW RNR) {post : SS → Prop} (HR : RetV p l e r_R_end s m args below meth c Q D vcl (tyl cA) (wR cA a) X A b_R_end post) {σ : SS} {x1 : Int32} {s0 : Int32} {H : Heap} {locs : List Loc} {ls : Array Slot} (h : f_R_end_18 post σ x1 s0) (hw : CX D vcl (tyl cA) (wR cA a σ) X A s H locs) (hl : lv_has ls 2 [(0, .ref (a 0)), (1, .int x1)]) : W p l e r_R_end s m args below meth c H locs 0 0 Q (F0 m 18 ls [.int s0, .ref (a 0)]) := by
  have hx := fx.1
  have hb := fx.2.1
  unfold f_R_end_18 at h
  refine lv_iconst (pc := 18) (v := 1) hx hb d_R_end_18 (by decide) ?_
  refine cxI (pc := 19) hX fx hw (c_R_fails hX h) cw_R_77 (rcR_0 hw) rfl ⟨Nat.le_of_ble_eq_true rfl, Nat.le_of_ble_eq_true rfl⟩ hl.1 (Nat.le_of_ble_eq_true rfl) d_R_end_19 ⟨Nat.zero_le _, Nat.zero_le _⟩ (fun r_2 σ_1 H locs hw h => ?_)
  have zr_2 := h.1
  replace h := h.2
  refine lv_if_eq (pc := 22) (tgt := 26) hx hb d_R_end_22 (by decide) (fun c9 => ?_) (fun c9 => ?_)
  · replace h := h.1 c9
    refine lv_aload_n (pc := 26) hx hb d_R_end_26 rfl (lv_at hl 0 rfl) ?_
    refine lv_iload_n (pc := 27) hx hb d_R_end_27 rfl (lv_at hl 1 rfl) ?_
    refine pR_0_length (pc := 28) fx hw kw_1088 d_R_end_28 (fun σ_3 e9 H locs hw => ?_)
    replace h := nm_u h e9
    clear e9
    exact HR d_R_end_31 h hw
  · replace h := h.2 c9
    exact HR d_R_end_25 h hw
set_option maxHeartbeats 4000000 in
set_option maxRecDepth 100000 in
theorem e_R_end (hX : XT X) (fx : CallFix p m c b_R_end 2 s args GW RNR) {post : SS → Prop} (HR : RetV p l e r_R_end s m args below meth c Q D vcl (tyl cA) (wR cA a) X A b_R_end post) {σ : SS} {x1 : Int32} {H : Heap} {locs : List Loc} {ls : Array Slot} (h : f_R_end post σ x1) (hw : CX D vcl (tyl cA) (wR cA a σ) X A s H locs) (hl : lv_has ls 2 [(0, .ref (a 0)), (1, .int x1)]) : W p l e r_R_end s m args below meth c H locs 0 0 Q (F0 m 0 ls []) := by
  have hx := fx.1
  have hb := fx.2.1
  unfold f_R_end at h
  refine lv_aload_n (pc := 0) hx hb d_R_end_0 rfl (lv_at hl 0 rfl) ?_
  refine lv_iload_n (pc := 1) hx hb d_R_end_1 rfl (lv_at hl 1 rfl) ?_
  refine lv_if_lt (pc := 2) (tgt := 13) hx hb d_R_end_2 (by decide) (fun c9 => ?_) (fun c9 => ?_)
  · replace h := h.1 c9
    refine lv_iconst (pc := 13) (v := 1) hx hb d_R_end_13 (by decide) ?_
    refine lv_goto (pc := 14) (tgt := 18) hx hb d_R_end_14 (by decide) ?_
    exact c_R_end_18 hX fx HR h hw (lv_sub hl [0, 1] rfl)
  · replace h := h.2 c9
    refine lv_iload_n (pc := 5) hx hb d_R_end_5 rfl (lv_at hl 1 rfl) ?_
    refine lv_aload_n (pc := 6) hx hb d_R_end_6 rfl (lv_at hl 0 rfl) ?_
    refine gR_0_length (pc := 7) fx hw kw_1088 d_R_end_7 ?_
    refine lv_icmp_le (pc := 10) (tgt := 17) hx hb d_R_end_10 (by decide) (fun c9 => ?_) (fun c9 => ?_)
    · replace h := h.1 c9
      refine lv_iconst (pc := 17) (v := 0) hx hb d_R_end_17 (by decide) ?_
      exact c_R_end_18 hX fx HR h hw (lv_sub hl [0, 1] rfl)
    · replace h := h.2 c9
      refine lv_iconst (pc := 13) (v := 1) hx hb d_R_end_13 (by decide) ?_
      refine lv_goto (pc := 14) (tgt := 18) hx hb d_R_end_14 (by decide) ?_
      exact c_R_end_18 hX fx HR h hw (lv_sub hl [0, 1] rfl)
end
theorem c_R_end {l : Launch} {D : va_G} {cA : Nat → ClassId} {a : Nat → Nat} {X : (Nat → Prop) → State → Prop} (hX : XT X) {σ : SS} {post : SS → Prop} {x1 : Int32} (h : f_R_end post σ x1) : mV l y_R_end b_R_end 2 none 1 22 D vcl (tyl cA) (wR cA a) X σ [.ref (a 0), .int x1] post := met_V (by decide) (Nat.le_of_ble_eq_true rfl) (fun p e s m args below meth c A Q fx HR H ls hw hl => e_R_end hX fx HR h hw hl)
abbrev r_R_stop : Room := { frames := 0, cells := 0, slots := 0, locals := 0 }
def f_R_stop (post : Int32 → SS → Prop) (σ : SS) (x1 : Int32) : Prop := br ((σ.1 13) = 0) (nm (sI σ 13 x1) fun σ_1 => nm (sI σ_1 14 (σ_1.1 15)) fun σ_2 => post 0 σ_2) (post 0 σ)
section
variable {p : Program} {l : Launch} {e : Env} {s : State} {m : MethodId} {args : Array Value} {below : List Frame} {meth : Method} {c : Code} {Q : State → Prop} {D : va_G} {cA : Nat → ClassId} {a : Nat → Nat} {X : (Nat → Prop) → State → Prop} {A : Nat → Prop}
set_option maxHeartbeats 4000000 in
set_option maxRecDepth 100000 in
theorem e_R_stop (hX : XT X) (fx : CallFix p m c b_R_stop 2 s args GW RNR) {post : Int32 → SS → Prop} (HR : RetI p l e r_R_stop s m args below meth c Q D vcl (tyl cA) (wR cA a) X A b_R_stop .boolean (fun r σ => bz r ∧ post r σ)) {σ : SS} {x1 : Int32} {H : Heap} {locs : List Loc} {ls : Array Slot} (h : f_R_stop post σ x1) (hw : CX D vcl (tyl cA) (wR cA a σ) X A s H locs) (hl : lv_has ls 2 [(0, .ref (a 0)), (1, .int x1)]) : W p l e r_R_stop s m args below meth c H locs 0 0 Q (F0 m 0 ls []) := by
  have hx := fx.1
  have hb := fx.2.1
  unfold f_R_stop at h
  refine lv_aload_n (pc := 0) hx hb d_R_stop_0 rfl (lv_at hl 0 rfl) ?_
  refine gR_0_fault (pc := 1) fx hw kw_1089 d_R_stop_1 ?_
  refine lv_if_ne (pc := 4) (tgt := 20) hx hb d_R_stop_4 (by decide) (fun c9 => ?_) (fun c9 => ?_)
  · replace h := h.2 c9
    refine lv_iconst (pc := 20) (v := 0) hx hb d_R_stop_20 (by decide) ?_
    exact HR (bz_n bz_0) d_R_stop_21 ⟨bz_0, h⟩ hw
  · replace h := h.1 c9
    refine lv_aload_n (pc := 7) hx hb d_R_stop_7 rfl (lv_at hl 0 rfl) ?_
    refine lv_iload_n (pc := 8) hx hb d_R_stop_8 rfl (lv_at hl 1 rfl) ?_
    refine pR_0_fault (pc := 9) fx hw kw_1089 d_R_stop_9 (fun σ_1 e9 H locs hw => ?_)
    replace h := nm_u h e9
    clear e9
    refine lv_aload_n (pc := 12) hx hb d_R_stop_12 rfl (lv_at hl 0 rfl) ?_
    refine lv_aload_n (pc := 13) hx hb d_R_stop_13 rfl (lv_at hl 0 rfl) ?_
    refine gR_0_line (pc := 14) fx hw kw_1091 d_R_stop_14 ?_
    refine pR_0_faultLine (pc := 17) fx hw kw_1090 d_R_stop_17 (fun σ_2 e9 H locs hw => ?_)
    replace h := nm_u h e9
    clear e9
    refine lv_iconst (pc := 20) (v := 0) hx hb d_R_stop_20 (by decide) ?_
    exact HR (bz_n bz_0) d_R_stop_21 ⟨bz_0, h⟩ hw
end
theorem c_R_stop {l : Launch} {D : va_G} {cA : Nat → ClassId} {a : Nat → Nat} {X : (Nat → Prop) → State → Prop} (hX : XT X) {σ : SS} {post : Int32 → SS → Prop} {x1 : Int32} (h : f_R_stop post σ x1) : mI l y_R_stop b_R_stop 2 (some .boolean) 0 0 D vcl (tyl cA) (wR cA a) X σ [.ref (a 0), .int x1] (fun r σ => bz r ∧ post r σ) := met_I (by decide) (Nat.le_of_ble_eq_true rfl) (fun p e s m args below meth c A Q fx HR H ls hw hl => e_R_stop hX fx HR h hw hl)
abbrev r_R_isLetter : Room := { frames := 0, cells := 0, slots := 0, locals := 0 }
def f_R_isLetter_12 (post : Int32 → SS → Prop) (σ : SS) (x0 : Int32) : Prop := br (x0 = 46) (post 1 σ) (post 0 σ)
def f_R_isLetter (post : Int32 → SS → Prop) (σ : SS) (x0 : Int32) : Prop := br (x0 < 65) (f_R_isLetter_12 post σ x0) (br (x0 ≤ 90) (post 1 σ) (f_R_isLetter_12 post σ x0))
section
variable {p : Program} {l : Launch} {e : Env} {s : State} {m : MethodId} {args : Array Value} {below : List Frame} {meth : Method} {c : Code} {Q : State → Prop} {D : va_G} {cA : Nat → ClassId} {a : Nat → Nat} {X : (Nat → Prop) → State → Prop} {A : Nat → Prop}
set_option maxHeartbeats 4000000 in
set_option maxRecDepth 100000 in
theorem c_R_isLetter_12 (hX : XT X) (fx : CallFix p m c b_R_isLetter 1 s args GW RNR) {post : Int32 → SS → Prop} (HR : RetI p l e r_R_isLetter s m args below meth c Q D vcl (tyl cA) (wR cA a) X A b_R_isLetter .boolean (fun r σ => bz r ∧ post r σ)) {σ : SS} {x0 : Int32} {H : Heap} {locs : List Loc} {ls : Array Slot} (h : f_R_isLetter_12 post σ x0) (hw : CX D vcl (tyl cA) (wR cA a σ) X A s H locs) (hl : lv_has ls 1 [(0, .int x0)]) : W p l e r_R_isLetter s m args below meth c H locs 0 0 Q (F0 m 12 ls []) := by
  have hx := fx.1
  have hb := fx.2.1
  unfold f_R_isLetter_12 at h
  refine lv_iload_n (pc := 12) hx hb d_R_isLetter_12 rfl (lv_at hl 0 rfl) ?_
  refine lv_bipush (pc := 13) (v := 46) hx hb d_R_isLetter_13 (by decide) ?_
  refine lv_icmp_ne (pc := 15) (tgt := 22) hx hb d_R_isLetter_15 (by decide) (fun c9 => ?_) (fun c9 => ?_)
  · replace h := h.2 c9
    refine lv_iconst (pc := 22) (v := 0) hx hb d_R_isLetter_22 (by decide) ?_
    exact HR (bz_n bz_0) d_R_isLetter_23 ⟨bz_0, h⟩ hw
  · replace h := h.1 c9
    refine lv_iconst (pc := 18) (v := 1) hx hb d_R_isLetter_18 (by decide) ?_
    refine lv_goto (pc := 19) (tgt := 23) hx hb d_R_isLetter_19 (by decide) ?_
    exact HR (bz_n bz_1) d_R_isLetter_23 ⟨bz_1, h⟩ hw
set_option maxHeartbeats 4000000 in
set_option maxRecDepth 100000 in
theorem e_R_isLetter (hX : XT X) (fx : CallFix p m c b_R_isLetter 1 s args GW RNR) {post : Int32 → SS → Prop} (HR : RetI p l e r_R_isLetter s m args below meth c Q D vcl (tyl cA) (wR cA a) X A b_R_isLetter .boolean (fun r σ => bz r ∧ post r σ)) {σ : SS} {x0 : Int32} {H : Heap} {locs : List Loc} {ls : Array Slot} (h : f_R_isLetter post σ x0) (hw : CX D vcl (tyl cA) (wR cA a σ) X A s H locs) (hl : lv_has ls 1 [(0, .int x0)]) : W p l e r_R_isLetter s m args below meth c H locs 0 0 Q (F0 m 0 ls []) := by
  have hx := fx.1
  have hb := fx.2.1
  unfold f_R_isLetter at h
  refine lv_iload_n (pc := 0) hx hb d_R_isLetter_0 rfl (lv_at hl 0 rfl) ?_
  refine lv_bipush (pc := 1) (v := 65) hx hb d_R_isLetter_1 (by decide) ?_
  refine lv_icmp_lt (pc := 3) (tgt := 12) hx hb d_R_isLetter_3 (by decide) (fun c9 => ?_) (fun c9 => ?_)
  · replace h := h.1 c9
    exact c_R_isLetter_12 hX fx HR h hw (lv_sub hl [0] rfl)
  · replace h := h.2 c9
    refine lv_iload_n (pc := 6) hx hb d_R_isLetter_6 rfl (lv_at hl 0 rfl) ?_
    refine lv_bipush (pc := 7) (v := 90) hx hb d_R_isLetter_7 (by decide) ?_
    refine lv_icmp_le (pc := 9) (tgt := 18) hx hb d_R_isLetter_9 (by decide) (fun c9 => ?_) (fun c9 => ?_)
    · replace h := h.1 c9
      refine lv_iconst (pc := 18) (v := 1) hx hb d_R_isLetter_18 (by decide) ?_
      refine lv_goto (pc := 19) (tgt := 23) hx hb d_R_isLetter_19 (by decide) ?_
      exact HR (bz_n bz_1) d_R_isLetter_23 ⟨bz_1, h⟩ hw
    · replace h := h.2 c9
      exact c_R_isLetter_12 hX fx HR h hw (lv_sub hl [0] rfl)
end
theorem c_R_isLetter {l : Launch} {D : va_G} {cA : Nat → ClassId} {a : Nat → Nat} {X : (Nat → Prop) → State → Prop} (hX : XT X) {σ : SS} {post : Int32 → SS → Prop} {x0 : Int32} (h : f_R_isLetter post σ x0) : mI l y_R_isLetter b_R_isLetter 1 (some .boolean) 0 0 D vcl (tyl cA) (wR cA a) X σ [.int x0] (fun r σ => bz r ∧ post r σ) := met_I (by decide) (Nat.le_of_ble_eq_true rfl) (fun p e s m args below meth c A Q fx HR H ls hw hl => e_R_isLetter hX fx HR h hw hl)
abbrev r_R_isDigit : Room := { frames := 0, cells := 0, slots := 0, locals := 0 }
def f_R_isDigit (post : Int32 → SS → Prop) (σ : SS) (x0 : Int32) : Prop := br (x0 < 48) (post 0 σ) (br (57 < x0) (post 0 σ) (post 1 σ))
section
variable {p : Program} {l : Launch} {e : Env} {s : State} {m : MethodId} {args : Array Value} {below : List Frame} {meth : Method} {c : Code} {Q : State → Prop} {D : va_G} {cA : Nat → ClassId} {a : Nat → Nat} {X : (Nat → Prop) → State → Prop} {A : Nat → Prop}
set_option maxHeartbeats 4000000 in
set_option maxRecDepth 100000 in
theorem e_R_isDigit (hX : XT X) (fx : CallFix p m c b_R_isDigit 1 s args GW RNR) {post : Int32 → SS → Prop} (HR : RetI p l e r_R_isDigit s m args below meth c Q D vcl (tyl cA) (wR cA a) X A b_R_isDigit .boolean (fun r σ => bz r ∧ post r σ)) {σ : SS} {x0 : Int32} {H : Heap} {locs : List Loc} {ls : Array Slot} (h : f_R_isDigit post σ x0) (hw : CX D vcl (tyl cA) (wR cA a σ) X A s H locs) (hl : lv_has ls 1 [(0, .int x0)]) : W p l e r_R_isDigit s m args below meth c H locs 0 0 Q (F0 m 0 ls []) := by
  have hx := fx.1
  have hb := fx.2.1
  unfold f_R_isDigit at h
  refine lv_iload_n (pc := 0) hx hb d_R_isDigit_0 rfl (lv_at hl 0 rfl) ?_
  refine lv_bipush (pc := 1) (v := 48) hx hb d_R_isDigit_1 (by decide) ?_
  refine lv_icmp_lt (pc := 3) (tgt := 16) hx hb d_R_isDigit_3 (by decide) (fun c9 => ?_) (fun c9 => ?_)
  · replace h := h.1 c9
    refine lv_iconst (pc := 16) (v := 0) hx hb d_R_isDigit_16 (by decide) ?_
    exact HR (bz_n bz_0) d_R_isDigit_17 ⟨bz_0, h⟩ hw
  · replace h := h.2 c9
    refine lv_iload_n (pc := 6) hx hb d_R_isDigit_6 rfl (lv_at hl 0 rfl) ?_
    refine lv_bipush (pc := 7) (v := 57) hx hb d_R_isDigit_7 (by decide) ?_
    refine lv_icmp_gt (pc := 9) (tgt := 16) hx hb d_R_isDigit_9 (by decide) (fun c9 => ?_) (fun c9 => ?_)
    · replace h := h.1 c9
      refine lv_iconst (pc := 16) (v := 0) hx hb d_R_isDigit_16 (by decide) ?_
      exact HR (bz_n bz_0) d_R_isDigit_17 ⟨bz_0, h⟩ hw
    · replace h := h.2 c9
      refine lv_iconst (pc := 12) (v := 1) hx hb d_R_isDigit_12 (by decide) ?_
      refine lv_goto (pc := 13) (tgt := 17) hx hb d_R_isDigit_13 (by decide) ?_
      exact HR (bz_n bz_1) d_R_isDigit_17 ⟨bz_1, h⟩ hw
end
theorem c_R_isDigit {l : Launch} {D : va_G} {cA : Nat → ClassId} {a : Nat → Nat} {X : (Nat → Prop) → State → Prop} (hX : XT X) {σ : SS} {post : Int32 → SS → Prop} {x0 : Int32} (h : f_R_isDigit post σ x0) : mI l y_R_isDigit b_R_isDigit 1 (some .boolean) 0 0 D vcl (tyl cA) (wR cA a) X σ [.int x0] (fun r σ => bz r ∧ post r σ) := met_I (by decide) (Nat.le_of_ble_eq_true rfl) (fun p e s m args below meth c A Q fx HR H ls hw hl => e_R_isDigit hX fx HR h hw hl)
