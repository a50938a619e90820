/-! the reference, walked: part 5 -/
abbrev r_R_pass : Room := { frames := 10, cells := 0, slots := 0, locals := 236 }
def f_R_pass_94 (post : SS → Prop) (k12 : SS → Int32 → Int32 → Prop) (σ : SS) (x1 : Int32) (x2 : Int32) (x3 : Int32) : Prop := nm (sI σ 20 x2) fun σ_1 => nm (sI σ_1 15 ((σ_1.1 15) + 1)) fun σ_2 => f_R_goThrough (fun σ_3 => nm (x3 + 1) fun x2_5 => k12 σ_3 x1 x2_5) σ_2 x1
def f_R_pass_59 (post : SS → Prop) (k12 : SS → Int32 → Int32 → Prop) : Nat → SS → Int32 → Int32 → Int32 → Prop
  | 0, _, _, _, _ => False
  | n + 1, σ, x1, x2, x3 => br (x3 ≤ (σ.1 21)) (f_R_pass_94 post k12 σ x1 x2 x3) (vp_in (σ.1 21) 6000 ∧ br ((σ.2.1 9 (σ.1 21).toNatClampNeg) = 59) (f_R_pass_94 post k12 σ x1 x2 x3) (nm (sI σ 21 ((σ.1 21) + 1)) fun σ_6 => f_R_pass_59 post k12 n σ_6 x1 x2 x3))
def f_R_pass_54 (post : SS → Prop) (k12 : SS → Int32 → Int32 → Prop) (σ : SS) (x1 : Int32) (x2 : Int32) (x3 : Int32) : Prop := nm (sI σ 21 x2) fun σ_7 => ∃ n9, f_R_pass_59 post k12 n9 σ_7 x1 x2 x3
def f_R_pass_29 (post : SS → Prop) (k12 : SS → Int32 → Int32 → Prop) : Nat → SS → Int32 → Int32 → Int32 → Prop
  | 0, _, _, _, _ => False
  | n + 1, σ, x1, x2, x3 => br ((σ.1 12) ≤ x3) (f_R_pass_54 post k12 σ x1 x2 x3) (vp_in x3 6000 ∧ br ((σ.2.1 9 x3.toNatClampNeg) = 10) (f_R_pass_54 post k12 σ x1 x2 x3) (nm (x3 + 1) fun x3_8 => f_R_pass_29 post k12 n σ x1 x2 x3_8))
def f_R_pass_12 (post : SS → Prop) : Nat → SS → Int32 → Int32 → Prop
  | 0, _, _, _ => False
  | n + 1, σ, x1, x2 => br ((σ.1 12) ≤ x2) (post σ) (br ((σ.1 13) = 0) (∃ n9, f_R_pass_29 post (f_R_pass_12 post n) n9 σ x1 x2 x2) (post σ))
def f_R_pass (post : SS → Prop) (σ : SS) (x1 : Int32) : Prop := nm (sI σ 19 0) fun σ_9 => nm (sI σ_9 15 0) fun σ_10 => ∃ n9, f_R_pass_12 post n9 σ_10 x1 0
section
variable {p : Program} {l : Launch} {e : Env} {s : State} {m : MethodId} {args : Array Value} {below : List Frame} {meth : Method} {c : Code} {Q : State → Prop} {D : va_G} {cA : Nat → ClassId} {a : Nat → Nat} {X : (Nat → Prop) → State → Prop} {A : Nat → Prop}
set_option maxHeartbeats 4000000 in
set_option maxRecDepth 100000 in
theorem c_R_pass_94 (hX : XT X) (fx : CallFix p m c b_R_pass 4 s args GW RNR) {post : SS → Prop} (HR : RetV p l e r_R_pass s m args below meth c Q D vcl (tyl cA) (wR cA a) X A b_R_pass post) {k12 : SS → Int32 → Int32 → Prop} (K12 : ∀ {σ : SS} {x1 : Int32} {x2 : Int32} {H : Heap} {locs : List Loc} {ls : Array Slot}, k12 σ x1 x2 → CX D vcl (tyl cA) (wR cA a σ) X A s H locs → lv_has ls 4 [(0, .ref (a 0)), (1, .int x1), (2, .int x2)] → W p l e r_R_pass s m args below meth c H locs 0 0 Q (F0 m 12 ls [])) {σ : SS} {x1 : Int32} {x2 : Int32} {x3 : Int32} {H : Heap} {locs : List Loc} {ls : Array Slot} (h : f_R_pass_94 post k12 σ x1 x2 x3) (hw : CX D vcl (tyl cA) (wR cA a σ) X A s H locs) (hl : lv_has ls 4 [(0, .ref (a 0)), (1, .int x1), (2, .int x2), (3, .int x3)]) : W p l e r_R_pass s m args below meth c H locs 0 0 Q (F0 m 94 ls []) := by
  have hx := fx.1
  have hb := fx.2.1
  unfold f_R_pass_94 at h
  refine lv_aload_n (pc := 94) hx hb d_R_pass_94 rfl (lv_at hl 0 rfl) ?_
  refine lv_iload_n (pc := 95) hx hb d_R_pass_95 rfl (lv_at hl 2 rfl) ?_
  refine pR_0_at (pc := 96) fx hw kw_1102 d_R_pass_96 (fun σ_1 e9 H locs hw => ?_)
  replace h := nm_u h e9
  clear e9
  refine lv_aload_n (pc := 99) hx hb d_R_pass_99 rfl (lv_at hl 0 rfl) ?_
  refine lv_dup (pc := 100) hx hb d_R_pass_100 rfl ?_
  refine gR_0_line (pc := 101) fx hw kw_1091 d_R_pass_101 ?_
  refine lv_iconst (pc := 104) (v := 1) hx hb d_R_pass_104 (by decide) ?_
  refine lv_iadd (pc := 105) hx hb d_R_pass_105 ?_
  refine pR_0_line (pc := 106) fx hw kw_1091 d_R_pass_106 (fun σ_2 e9 H locs hw => ?_)
  replace h := nm_u h e9
  clear e9
  refine lv_aload_n (pc := 109) hx hb d_R_pass_109 rfl (lv_at hl 0 rfl) ?_
  refine lv_iload_n (pc := 110) hx hb d_R_pass_110 rfl (lv_at hl 1 rfl) ?_
  refine cxU (pc := 111) hX fx hw (c_R_goThrough hX h) cw_R_406 (rcR_0 hw) rfl ⟨Nat.le_of_ble_eq_true rfl, Nat.le_of_ble_eq_true rfl⟩ hl.1 (Nat.le_of_ble_eq_true rfl) d_R_pass_111 ⟨Nat.zero_le _, Nat.zero_le _⟩ (fun σ_3 H locs hw h => ?_)
  refine lv_iload_n (pc := 114) hx hb d_R_pass_114 rfl (lv_at hl 3 rfl) ?_
  refine lv_iconst (pc := 115) (v := 1) hx hb d_R_pass_115 (by decide) ?_
  refine lv_iadd (pc := 116) hx hb d_R_pass_116 ?_
  refine lv_topi (fun x2_5 e9 => ?_)
  replace h := nm_u h e9
  clear e9
  refine lv_istore_n (pc := 117) (lv' := [(2, .int x2_5), (0, .ref (a 0)), (1, .int x1), (3, .int x3)]) hx hb d_R_pass_117 rfl hl (by decide) rfl (fun ls hl => ?_)
  refine lv_goto (pc := 118) (tgt := 12) hx hb d_R_pass_118 (by decide) ?_
  exact K12 h hw (lv_sub hl [1, 2, 0] rfl)
set_option maxHeartbeats 4000000 in
set_option maxRecDepth 100000 in
theorem c_R_pass_59 (hX : XT X) (fx : CallFix p m c b_R_pass 4 s args GW RNR) {post : SS → Prop} (HR : RetV p l e r_R_pass s m args below meth c Q D vcl (tyl cA) (wR cA a) X A b_R_pass post) {k12 : SS → Int32 → Int32 → Prop} (K12 : ∀ {σ : SS} {x1 : Int32} {x2 : Int32} {H : Heap} {locs : List Loc} {ls : Array Slot}, k12 σ x1 x2 → CX D vcl (tyl cA) (wR cA a σ) X A s H locs → lv_has ls 4 [(0, .ref (a 0)), (1, .int x1), (2, .int x2)] → W p l e r_R_pass s m args below meth c H locs 0 0 Q (F0 m 12 ls [])) : ∀ (n : Nat) {σ : SS} {x1 : Int32} {x2 : Int32} {x3 : Int32} {H : Heap} {locs : List Loc} {ls : Array Slot}, f_R_pass_59 post k12 n σ x1 x2 x3 → CX D vcl (tyl cA) (wR cA a σ) X A s H locs → lv_has ls 4 [(0, .ref (a 0)), (1, .int x1), (2, .int x2), (3, .int x3)] → W p l e r_R_pass s m args below meth c H locs 0 0 Q (F0 m 59 ls []) := by
  have hx := fx.1
  have hb := fx.2.1
  intro n
  induction n with
  | zero => intro σ x1 x2 x3 H locs ls h; exact h.elim
  | succ n ih =>
    intro σ x1 x2 x3 H locs ls h hw hl
    have K59 := @ih
    unfold f_R_pass_59 at h
    refine lv_aload_n (pc := 59) hx hb d_R_pass_59 rfl (lv_at hl 0 rfl) ?_
    refine gR_0_lineEnd (pc := 60) fx hw kw_1103 d_R_pass_60 ?_
    refine lv_iload_n (pc := 63) hx hb d_R_pass_63 rfl (lv_at hl 3 rfl) ?_
    refine lv_icmp_ge (pc := 64) (tgt := 94) hx hb d_R_pass_64 (by decide) (fun c9 => ?_) (fun c9 => ?_)
    · replace h := h.1 c9
      exact c_R_pass_94 hX fx HR K12 h hw (lv_sub hl [0, 1, 2, 3] rfl)
    · replace h := h.2 c9
      refine lv_aload_n (pc := 67) hx hb d_R_pass_67 rfl (lv_at hl 0 rfl) ?_
      refine gR_0_text (pc := 68) fx hw kw_1087 d_R_pass_68 ?_
      refine lv_aload_n (pc := 71) hx hb d_R_pass_71 rfl (lv_at hl 0 rfl) ?_
      refine gR_0_lineEnd (pc := 72) fx hw kw_1103 d_R_pass_72 ?_
      refine alR_9 (pc := 75) fx hw h.1 d_R_pass_75 ?_
      replace h := h.2
      refine lv_bipush (pc := 76) (v := 59) hx hb d_R_pass_76 (by decide) ?_
      refine lv_icmp_eq (pc := 78) (tgt := 94) hx hb d_R_pass_78 (by decide) (fun c9 => ?_) (fun c9 => ?_)
      · replace h := h.1 c9
        exact c_R_pass_94 hX fx HR K12 h hw (lv_sub hl [0, 1, 2, 3] rfl)
      · replace h := h.2 c9
        refine lv_aload_n (pc := 81) hx hb d_R_pass_81 rfl (lv_at hl 0 rfl) ?_
        refine lv_dup (pc := 82) hx hb d_R_pass_82 rfl ?_
        refine gR_0_lineEnd (pc := 83) fx hw kw_1103 d_R_pass_83 ?_
        refine lv_iconst (pc := 86) (v := 1) hx hb d_R_pass_86 (by decide) ?_
        refine lv_iadd (pc := 87) hx hb d_R_pass_87 ?_
        refine pR_0_lineEnd (pc := 88) fx hw kw_1103 d_R_pass_88 (fun σ_6 e9 H locs hw => ?_)
        replace h := nm_u h e9
        clear e9
        refine lv_goto (pc := 91) (tgt := 59) hx hb d_R_pass_91 (by decide) ?_
        exact K59 h hw (lv_sub hl [0, 1, 2, 3] rfl)
set_option maxHeartbeats 4000000 in
set_option maxRecDepth 100000 in
theorem c_R_pass_54 (hX : XT X) (fx : CallFix p m c b_R_pass 4 s args GW RNR) {post : SS → Prop} (HR : RetV p l e r_R_pass s m args below meth c Q D vcl (tyl cA) (wR cA a) X A b_R_pass post) {k12 : SS → Int32 → Int32 → Prop} (K12 : ∀ {σ : SS} {x1 : Int32} {x2 : Int32} {H : Heap} {locs : List Loc} {ls : Array Slot}, k12 σ x1 x2 → CX D vcl (tyl cA) (wR cA a σ) X A s H locs → lv_has ls 4 [(0, .ref (a 0)), (1, .int x1), (2, .int x2)] → W p l e r_R_pass s m args below meth c H locs 0 0 Q (F0 m 12 ls [])) {σ : SS} {x1 : Int32} {x2 : Int32} {x3 : Int32} {H : Heap} {locs : List Loc} {ls : Array Slot} (h : f_R_pass_54 post k12 σ x1 x2 x3) (hw : CX D vcl (tyl cA) (wR cA a σ) X A s H locs) (hl : lv_has ls 4 [(0, .ref (a 0)), (1, .int x1), (2, .int x2), (3, .int x3)]) : W p l e r_R_pass s m args below meth c H locs 0 0 Q (F0 m 54 ls []) := by
  have hx := fx.1
  have hb := fx.2.1
  unfold f_R_pass_54 at h
  refine lv_aload_n (pc := 54) hx hb d_R_pass_54 rfl (lv_at hl 0 rfl) ?_
  refine lv_iload_n (pc := 55) hx hb d_R_pass_55 rfl (lv_at hl 2 rfl) ?_
  refine pR_0_lineEnd (pc := 56) fx hw kw_1103 d_R_pass_56 (fun σ_7 e9 H locs hw => ?_)
  replace h := nm_u h e9
  clear e9
  obtain ⟨n9, h⟩ := h
  exact c_R_pass_59 hX fx HR K12 n9 h hw (lv_sub hl [0, 1, 2, 3] rfl)
set_option maxHeartbeats 4000000 in
set_option maxRecDepth 100000 in
theorem c_R_pass_29 (hX : XT X) (fx : CallFix p m c b_R_pass 4 s args GW RNR) {post : SS → Prop} (HR : RetV p l e r_R_pass s m args below meth c Q D vcl (tyl cA) (wR cA a) X A b_R_pass post) {k12 : SS → Int32 → Int32 → Prop} (K12 : ∀ {σ : SS} {x1 : Int32} {x2 : Int32} {H : Heap} {locs : List Loc} {ls : Array Slot}, k12 σ x1 x2 → CX D vcl (tyl cA) (wR cA a σ) X A s H locs → lv_has ls 4 [(0, .ref (a 0)), (1, .int x1), (2, .int x2)] → W p l e r_R_pass s m args below meth c H locs 0 0 Q (F0 m 12 ls [])) : ∀ (n : Nat) {σ : SS} {x1 : Int32} {x2 : Int32} {x3 : Int32} {H : Heap} {locs : List Loc} {ls : Array Slot}, f_R_pass_29 post k12 n σ x1 x2 x3 → CX D vcl (tyl cA) (wR cA a σ) X A s H locs → lv_has ls 4 [(0, .ref (a 0)), (1, .int x1), (2, .int x2), (3, .int x3)] → W p l e r_R_pass s m args below meth c H locs 0 0 Q (F0 m 29 ls []) := by
  have hx := fx.1
  have hb := fx.2.1
  intro n
  induction n with
  | zero => intro σ x1 x2 x3 H locs ls h; exact h.elim
  | succ n ih =>
    intro σ x1 x2 x3 H locs ls h hw hl
    have K29 := @ih
    unfold f_R_pass_29 at h
    refine lv_iload_n (pc := 29) hx hb d_R_pass_29 rfl (lv_at hl 3 rfl) ?_
    refine lv_aload_n (pc := 30) hx hb d_R_pass_30 rfl (lv_at hl 0 rfl) ?_
    refine gR_0_length (pc := 31) fx hw kw_1088 d_R_pass_31 ?_
    refine lv_icmp_ge (pc := 34) (tgt := 54) hx hb d_R_pass_34 (by decide) (fun c9 => ?_) (fun c9 => ?_)
    · replace h := h.1 c9
      exact c_R_pass_54 hX fx HR K12 h hw (lv_sub hl [0, 1, 2, 3] rfl)
    · replace h := h.2 c9
      refine lv_aload_n (pc := 37) hx hb d_R_pass_37 rfl (lv_at hl 0 rfl) ?_
      refine gR_0_text (pc := 38) fx hw kw_1087 d_R_pass_38 ?_
      refine lv_iload_n (pc := 41) hx hb d_R_pass_41 rfl (lv_at hl 3 rfl) ?_
      refine alR_9 (pc := 42) fx hw h.1 d_R_pass_42 ?_
      replace h := h.2
      refine lv_bipush (pc := 43) (v := 10) hx hb d_R_pass_43 (by decide) ?_
      refine lv_icmp_eq (pc := 45) (tgt := 54) hx hb d_R_pass_45 (by decide) (fun c9 => ?_) (fun c9 => ?_)
      · replace h := h.1 c9
        exact c_R_pass_54 hX fx HR K12 h hw (lv_sub hl [0, 1, 2, 3] rfl)
      · replace h := h.2 c9
        obtain ⟨x3_8, e9⟩ : ∃ z : Int32, z = x3 + 1 := ⟨_, rfl⟩
        replace h := nm_u h e9
        refine lv_iinc (pc := 48) (v := x3_8) (lv' := [(3, .int x3_8), (0, .ref (a 0)), (1, .int x1), (2, .int x2)]) hx hb d_R_pass_48 hl (k := 3) rfl (by rw [e9]; rfl) (by decide) rfl (fun ls hl => ?_)
        clear e9
        refine lv_goto (pc := 51) (tgt := 29) hx hb d_R_pass_51 (by decide) ?_
        exact K29 h hw (lv_sub hl [1, 2, 3, 0] rfl)
set_option maxHeartbeats 4000000 in
set_option maxRecDepth 100000 in
theorem c_R_pass_12 (hX : XT X) (fx : CallFix p m c b_R_pass 4 s args GW RNR) {post : SS → Prop} (HR : RetV p l e r_R_pass s m args below meth c Q D vcl (tyl cA) (wR cA a) X A b_R_pass post) : ∀ (n : Nat) {σ : SS} {x1 : Int32} {x2 : Int32} {H : Heap} {locs : List Loc} {ls : Array Slot}, f_R_pass_12 post n σ x1 x2 → CX D vcl (tyl cA) (wR cA a σ) X A s H locs → lv_has ls 4 [(0, .ref (a 0)), (1, .int x1), (2, .int x2)] → W p l e r_R_pass s m args below meth c H locs 0 0 Q (F0 m 12 ls []) := by
  have hx := fx.1
  have hb := fx.2.1
  intro n
  induction n with
  | zero => intro σ x1 x2 H locs ls h; exact h.elim
  | succ n ih =>
    intro σ x1 x2 H locs ls h hw hl
    have K12 := @ih
    unfold f_R_pass_12 at h
    refine lv_iload_n (pc := 12) hx hb d_R_pass_12 rfl (lv_at hl 2 rfl) ?_
    refine lv_aload_n (pc := 13) hx hb d_R_pass_13 rfl (lv_at hl 0 rfl) ?_
    refine gR_0_length (pc := 14) fx hw kw_1088 d_R_pass_14 ?_
    refine lv_icmp_ge (pc := 17) (tgt := 121) hx hb d_R_pass_17 (by decide) (fun c9 => ?_) (fun c9 => ?_)
    · replace h := h.1 c9
      exact HR d_R_pass_121 h hw
    · replace h := h.2 c9
      refine lv_aload_n (pc := 20) hx hb d_R_pass_20 rfl (lv_at hl 0 rfl) ?_
      refine gR_0_fault (pc := 21) fx hw kw_1089 d_R_pass_21 ?_
      refine lv_if_ne (pc := 24) (tgt := 121) hx hb d_R_pass_24 (by decide) (fun c9 => ?_) (fun c9 => ?_)
      · replace h := h.2 c9
        exact HR d_R_pass_121 h hw
      · replace h := h.1 c9
        refine lv_iload_n (pc := 27) hx hb d_R_pass_27 rfl (lv_at hl 2 rfl) ?_
        refine lv_istore_n (pc := 28) (lv' := [(3, .int x2), (0, .ref (a 0)), (1, .int x1), (2, .int x2)]) hx hb d_R_pass_28 rfl hl (by decide) rfl (fun ls hl => ?_)
        obtain ⟨n9, h⟩ := h
        exact c_R_pass_29 hX fx HR K12 n9 h hw (lv_sub hl [1, 2, 3, 0] rfl)
set_option maxHeartbeats 4000000 in
set_option maxRecDepth 100000 in
theorem e_R_pass (hX : XT X) (fx : CallFix p m c b_R_pass 4 s args GW RNR) {post : SS → Prop} (HR : RetV p l e r_R_pass s m args below meth c Q D vcl (tyl cA) (wR cA a) X A b_R_pass post) {σ : SS} {x1 : Int32} {H : Heap} {locs : List Loc} {ls : Array Slot} (h : f_R_pass post σ x1) (hw : CX D vcl (tyl cA) (wR cA a σ) X A s H locs) (hl : lv_has ls 4 [(0, .ref (a 0)), (1, .int x1)]) : W p l e r_R_pass s m args below meth c H locs 0 0 Q (F0 m 0 ls []) := by
  have hx := fx.1
  have hb := fx.2.1
  unfold f_R_pass at h
  refine lv_aload_n (pc := 0) hx hb d_R_pass_0 rfl (lv_at hl 0 rfl) ?_
  refine lv_iconst (pc := 1) (v := 0) hx hb d_R_pass_1 (by decide) ?_
  refine pR_0_here (pc := 2) fx hw kw_1101 d_R_pass_2 (fun σ_9 e9 H locs hw => ?_)
  replace h := nm_u h e9
  clear e9
  refine lv_aload_n (pc := 5) hx hb d_R_pass_5 rfl (lv_at hl 0 rfl) ?_
  refine lv_iconst (pc := 6) (v := 0) hx hb d_R_pass_6 (by decide) ?_
  refine pR_0_line (pc := 7) fx hw kw_1091 d_R_pass_7 (fun σ_10 e9 H locs hw => ?_)
  replace h := nm_u h e9
  clear e9
  refine lv_iconst (pc := 10) (v := 0) hx hb d_R_pass_10 (by decide) ?_
  refine lv_istore_n (pc := 11) (lv' := [(2, .int 0), (0, .ref (a 0)), (1, .int x1)]) hx hb d_R_pass_11 rfl hl (by decide) rfl (fun ls hl => ?_)
  obtain ⟨n9, h⟩ := h
  exact c_R_pass_12 hX fx HR n9 h hw (lv_sub hl [1, 2, 0] rfl)
end
theorem c_R_pass {l : Launch} {D : va_G} {cA : Nat → ClassId} {a : Nat → Nat} {X : (Nat → Prop) → State → Prop} (hX : XT X) {σ : SS} {post : SS → Prop} {x1 : Int32} (h : f_R_pass post σ x1) : mV l y_R_pass b_R_pass 4 none 10 236 D vcl (tyl cA) (wR cA a) X σ [.ref (a 0), .int x1] post := met_V (by decide) (Nat.le_of_ble_eq_true rfl) (fun p e s m args below meth c A Q fx HR H ls hw hl => e_R_pass hX fx HR h hw hl)
abbrev r_R_assemble : Room := { frames := 11, cells := 0, slots := 0, locals := 259 }
def f_R_assemble_91 (post : Int32 → SS → Prop) : Nat → SS → Int32 → Prop
  | 0, _, _ => False
  | n + 1, σ, x1 => br ((σ.1 16) ≤ x1) (nm (sI σ 17 (σ.1 16)) fun σ_1 => post (σ_1.1 18) σ_1) (vp_in x1 200 ∧ vp_in x1 200 ∧ nm (sB σ 12 x1.toNatClampNeg (σ.2.2.2 10 x1.toNatClampNeg)) fun σ_2 => vp_in x1 200 ∧ vp_in x1 200 ∧ nm (sA σ_2 13 x1.toNatClampNeg (σ_2.2.1 11 x1.toNatClampNeg)) fun σ_3 => nm (x1 + 1) fun x1_4 => f_R_assemble_91 post n σ_3 x1_4)
def f_R_assemble_58 (post : Int32 → SS → Prop) : Nat → SS → Int32 → Prop
  | 0, _, _ => False
  | n + 1, σ, x1 => br ((σ.1 18) ≤ x1) (∃ n9, f_R_assemble_91 post n9 σ 0) (vp_in x1 6000 ∧ vp_in x1 6000 ∧ vp_in (σ.2.1 14 x1.toNatClampNeg) 32768 ∧ nm (sA σ 1 (σ.2.1 14 x1.toNatClampNeg).toNatClampNeg (σ.2.1 15 x1.toNatClampNeg)) fun σ_5 => nm (x1 + 1) fun x1_6 => f_R_assemble_58 post n σ_5 x1_6)
def f_R_assemble_42 (post : Int32 → SS → Prop) (σ : SS) : Prop := nm (sI σ 12 0) fun σ_7 => br ((σ_7.1 13) = 0) (∃ n9, f_R_assemble_58 post n9 σ_7 0) (post (-1) σ_7)
def f_R_assemble (post : Int32 → SS → Prop) (σ : SS) : Prop := nm (sI σ 29 0) fun σ_8 => nm (sI σ_8 13 0) fun σ_9 => nm (sI σ_9 14 0) fun σ_10 => nm (sI σ_10 16 0) fun σ_11 => nm (sI σ_11 18 0) fun σ_12 => f_R_pass (fun σ_13 => br ((σ_13.1 13) = 0) (f_R_pass (fun σ_15 => f_R_assemble_42 post σ_15) σ_13 0) (f_R_assemble_42 post σ_13)) σ_12 1
section
variable {p : Program} {l : Launch} {e : Env} {s : State} {m : MethodId} {args : Array Value} {below : List Frame} {meth : Method} {c : Code} {Q : State → Prop} {D : va_G} {cA : Nat → ClassId} {a : Nat → Nat} {X : (Nat → Prop) → State → Prop} {A : Nat → Prop}
set_option maxHeartbeats 4000000 in
set_option maxRecDepth 100000 in
theorem c_R_assemble_91 (hX : XT X) (fx : CallFix p m c b_R_assemble 2 s args GW RNR) {post : Int32 → SS → Prop} (HR : RetI p l e r_R_assemble s m args below meth c Q D vcl (tyl cA) (wR cA a) X A b_R_assemble .int post) : ∀ (n : Nat) {σ : SS} {x1 : Int32} {H : Heap} {locs : List Loc} {ls : Array Slot}, f_R_assemble_91 post n σ x1 → CX D vcl (tyl cA) (wR cA a σ) X A s H locs → lv_has ls 2 [(0, .ref (a 0)), (1, .int x1)] → W p l e r_R_assemble s m args below meth c H locs 0 0 Q (F0 m 91 ls []) := by
  have hx := fx.1
  have hb := fx.2.1
  intro n
  induction n with
  | zero => intro σ x1 H locs ls h; exact h.elim
  | succ n ih =>
    intro σ x1 H locs ls h hw hl
    have K91 := @ih
    unfold f_R_assemble_91 at h
    refine lv_iload_n (pc := 91) hx hb d_R_assemble_91 rfl (lv_at hl 1 rfl) ?_
    refine lv_aload_n (pc := 92) hx hb d_R_assemble_92 rfl (lv_at hl 0 rfl) ?_
    refine gR_0_labelCount (pc := 93) fx hw kw_1094 d_R_assemble_93 ?_
    refine lv_icmp_ge (pc := 96) (tgt := 129) hx hb d_R_assemble_96 (by decide) (fun c9 => ?_) (fun c9 => ?_)
    · replace h := h.1 c9
      refine lv_aload_n (pc := 129) hx hb d_R_assemble_129 rfl (lv_at hl 0 rfl) ?_
      refine lv_aload_n (pc := 130) hx hb d_R_assemble_130 rfl (lv_at hl 0 rfl) ?_
      refine gR_0_labelCount (pc := 131) fx hw kw_1094 d_R_assemble_131 ?_
      refine pR_0_keptCount (pc := 134) fx hw kw_1097 d_R_assemble_134 (fun σ_1 e9 H locs hw => ?_)
      replace h := nm_u h e9
      clear e9
      refine lv_aload_n (pc := 137) hx hb d_R_assemble_137 rfl (lv_at hl 0 rfl) ?_
      refine gR_0_madeCount (pc := 138) fx hw kw_1100 d_R_assemble_138 ?_
      exact HR rfl d_R_assemble_141 h hw
    · replace h := h.2 c9
      refine lv_aload_n (pc := 99) hx hb d_R_assemble_99 rfl (lv_at hl 0 rfl) ?_
      refine gR_0_kept (pc := 100) fx hw kw_1095 d_R_assemble_100 ?_
      refine lv_iload_n (pc := 103) hx hb d_R_assemble_103 rfl (lv_at hl 1 rfl) ?_
      refine lv_aload_n (pc := 104) hx hb d_R_assemble_104 rfl (lv_at hl 0 rfl) ?_
      refine gR_0_labels (pc := 105) fx hw kw_1092 d_R_assemble_105 ?_
      refine lv_iload_n (pc := 108) hx hb d_R_assemble_108 rfl (lv_at hl 1 rfl) ?_
      refine alR_10 (pc := 109) fx hw h.1 d_R_assemble_109 ?_
      replace h := h.2
      refine asR_12 (pc := 110) fx hw h.1 d_R_assemble_110 (fun σ_2 e9 H locs hw => ?_)
      replace h := nm_u h.2 e9
      clear e9
      refine lv_aload_n (pc := 111) hx hb d_R_assemble_111 rfl (lv_at hl 0 rfl) ?_
      refine gR_0_keptPlaces (pc := 112) fx hw kw_1096 d_R_assemble_112 ?_
      refine lv_iload_n (pc := 115) hx hb d_R_assemble_115 rfl (lv_at hl 1 rfl) ?_
      refine lv_aload_n (pc := 116) hx hb d_R_assemble_116 rfl (lv_at hl 0 rfl) ?_
      refine gR_0_places (pc := 117) fx hw kw_1093 d_R_assemble_117 ?_
      refine lv_iload_n (pc := 120) hx hb d_R_assemble_120 rfl (lv_at hl 1 rfl) ?_
      refine alR_11 (pc := 121) fx hw h.1 d_R_assemble_121 ?_
      replace h := h.2
      refine asR_13 (pc := 122) fx hw h.1 d_R_assemble_122 (fun σ_3 e9 H locs hw => ?_)
      replace h := nm_u h.2 e9
      clear e9
      obtain ⟨x1_4, e9⟩ : ∃ z : Int32, z = x1 + 1 := ⟨_, rfl⟩
      replace h := nm_u h e9
      refine lv_iinc (pc := 123) (v := x1_4) (lv' := [(1, .int x1_4), (0, .ref (a 0))]) hx hb d_R_assemble_123 hl (k := 1) rfl (by rw [e9]; rfl) (by decide) rfl (fun ls hl => ?_)
      clear e9
      refine lv_goto (pc := 126) (tgt := 91) hx hb d_R_assemble_126 (by decide) ?_
      exact K91 h hw (lv_sub hl [1, 0] rfl)
set_option maxHeartbeats 4000000 in
set_option maxRecDepth 100000 in
theorem c_R_assemble_58 (hX : XT X) (fx : CallFix p m c b_R_assemble 2 s args GW RNR) {post : Int32 → SS → Prop} (HR : RetI p l e r_R_assemble s m args below meth c Q D vcl (tyl cA) (wR cA a) X A b_R_assemble .int post) : ∀ (n : Nat) {σ : SS} {x1 : Int32} {H : Heap} {locs : List Loc} {ls : Array Slot}, f_R_assemble_58 post n σ x1 → CX D vcl (tyl cA) (wR cA a σ) X A s H locs → lv_has ls 2 [(0, .ref (a 0)), (1, .int x1)] → W p l e r_R_assemble s m args below meth c H locs 0 0 Q (F0 m 58 ls []) := by
  have hx := fx.1
  have hb := fx.2.1
  intro n
  induction n with
  | zero => intro σ x1 H locs ls h; exact h.elim
  | succ n ih =>
    intro σ x1 H locs ls h hw hl
    have K58 := @ih
    unfold f_R_assemble_58 at h
    refine lv_iload_n (pc := 58) hx hb d_R_assemble_58 rfl (lv_at hl 1 rfl) ?_
    refine lv_aload_n (pc := 59) hx hb d_R_assemble_59 rfl (lv_at hl 0 rfl) ?_
    refine gR_0_madeCount (pc := 60) fx hw kw_1100 d_R_assemble_60 ?_
    refine lv_icmp_ge (pc := 63) (tgt := 89) hx hb d_R_assemble_63 (by decide) (fun c9 => ?_) (fun c9 => ?_)
    · replace h := h.1 c9
      refine lv_iconst (pc := 89) (v := 0) hx hb d_R_assemble_89 (by decide) ?_
      refine lv_istore_n (pc := 90) (lv' := [(1, .int 0), (0, .ref (a 0))]) hx hb d_R_assemble_90 rfl hl (by decide) rfl (fun ls hl => ?_)
      obtain ⟨n9, h⟩ := h
      exact c_R_assemble_91 hX fx HR n9 h hw (lv_sub hl [1, 0] rfl)
    · replace h := h.2 c9
      refine lv_aload_n (pc := 66) hx hb d_R_assemble_66 rfl (lv_at hl 0 rfl) ?_
      refine gR_0_memory (pc := 67) fx hw kw_1067 d_R_assemble_67 ?_
      refine lv_aload_n (pc := 70) hx hb d_R_assemble_70 rfl (lv_at hl 0 rfl) ?_
      refine gR_0_targets (pc := 71) fx hw kw_1098 d_R_assemble_71 ?_
      refine lv_iload_n (pc := 74) hx hb d_R_assemble_74 rfl (lv_at hl 1 rfl) ?_
      refine alR_14 (pc := 75) fx hw h.1 d_R_assemble_75 ?_
      replace h := h.2
      refine lv_aload_n (pc := 76) hx hb d_R_assemble_76 rfl (lv_at hl 0 rfl) ?_
      refine gR_0_made (pc := 77) fx hw kw_1099 d_R_assemble_77 ?_
      refine lv_iload_n (pc := 80) hx hb d_R_assemble_80 rfl (lv_at hl 1 rfl) ?_
      refine alR_15 (pc := 81) fx hw h.1 d_R_assemble_81 ?_
      replace h := h.2
      refine asR_1 (pc := 82) fx hw h.1 d_R_assemble_82 (fun σ_5 e9 H locs hw => ?_)
      replace h := nm_u h.2 e9
      clear e9
      obtain ⟨x1_6, e9⟩ : ∃ z : Int32, z = x1 + 1 := ⟨_, rfl⟩
      replace h := nm_u h e9
      refine lv_iinc (pc := 83) (v := x1_6) (lv' := [(1, .int x1_6), (0, .ref (a 0))]) hx hb d_R_assemble_83 hl (k := 1) rfl (by rw [e9]; rfl) (by decide) rfl (fun ls hl => ?_)
      clear e9
      refine lv_goto (pc := 86) (tgt := 58) hx hb d_R_assemble_86 (by decide) ?_
      exact K58 h hw (lv_sub hl [1, 0] rfl)
set_option maxHeartbeats 4000000 in
set_option maxRecDepth 100000 in
theorem c_R_assemble_42 (hX : XT X) (fx : CallFix p m c b_R_assemble 2 s args GW RNR) {post : Int32 → SS → Prop} (HR : RetI p l e r_R_assemble s m args below meth c Q D vcl (tyl cA) (wR cA a) X A b_R_assemble .int post) {σ : SS} {H : Heap} {locs : List Loc} {ls : Array Slot} (h : f_R_assemble_42 post σ) (hw : CX D vcl (tyl cA) (wR cA a σ) X A s H locs) (hl : lv_has ls 2 [(0, .ref (a 0))]) : W p l e r_R_assemble s m args below meth c H locs 0 0 Q (F0 m 42 ls []) := by
  have hx := fx.1
  have hb := fx.2.1
  unfold f_R_assemble_42 at h
  refine lv_aload_n (pc := 42) hx hb d_R_assemble_42 rfl (lv_at hl 0 rfl) ?_
  refine lv_iconst (pc := 43) (v := 0) hx hb d_R_assemble_43 (by decide) ?_
  refine pR_0_length (pc := 44) fx hw kw_1088 d_R_assemble_44 (fun σ_7 e9 H locs hw => ?_)
  replace h := nm_u h e9
  clear e9
  refine lv_aload_n (pc := 47) hx hb d_R_assemble_47 rfl (lv_at hl 0 rfl) ?_
  refine gR_0_fault (pc := 48) fx hw kw_1089 d_R_assemble_48 ?_
  refine lv_if_eq (pc := 51) (tgt := 56) hx hb d_R_assemble_51 (by decide) (fun c9 => ?_) (fun c9 => ?_)
  · replace h := h.1 c9
    refine lv_iconst (pc := 56) (v := 0) hx hb d_R_assemble_56 (by decide) ?_
    refine lv_istore_n (pc := 57) (lv' := [(1, .int 0), (0, .ref (a 0))]) hx hb d_R_assemble_57 rfl hl (by decide) rfl (fun ls hl => ?_)
    obtain ⟨n9, h⟩ := h
    exact c_R_assemble_58 hX fx HR n9 h hw (lv_sub hl [1, 0] rfl)
  · replace h := h.2 c9
    refine lv_iconst (pc := 54) (v := (-1)) hx hb d_R_assemble_54 (by decide) ?_
    exact HR rfl d_R_assemble_55 h hw
set_option maxHeartbeats 4000000 in
set_option maxRecDepth 100000 in
theorem e_R_assemble (hX : XT X) (fx : CallFix p m c b_R_assemble 2 s args GW RNR) {post : Int32 → SS → Prop} (HR : RetI p l e r_R_assemble s m args below meth c Q D vcl (tyl cA) (wR cA a) X A b_R_assemble .int post) {σ : SS} {H : Heap} {locs : List Loc} {ls : Array Slot} (h : f_R_assemble post σ) (hw : CX D vcl (tyl cA) (wR cA a σ) X A s H locs) (hl : lv_has ls 2 [(0, .ref (a 0))]) : W p l e r_R_assemble s m args below meth c H locs 0 0 Q (F0 m 0 ls []) := by
  have hx := fx.1
  have hb := fx.2.1
  unfold f_R_assemble at h
  refine lv_aload_n (pc := 0) hx hb d_R_assemble_0 rfl (lv_at hl 0 rfl) ?_
  refine lv_iconst (pc := 1) (v := 0) hx hb d_R_assemble_1 (by decide) ?_
  refine pR_0_thrown (pc := 2) fx hw kw_1115 d_R_assemble_2 (fun σ_8 e9 H locs hw => ?_)
  replace h := nm_u h e9
  clear e9
  refine lv_aload_n (pc := 5) hx hb d_R_assemble_5 rfl (lv_at hl 0 rfl) ?_
  refine lv_iconst (pc := 6) (v := 0) hx hb d_R_assemble_6 (by decide) ?_
  refine pR_0_fault (pc := 7) fx hw kw_1089 d_R_assemble_7 (fun σ_9 e9 H locs hw => ?_)
  replace h := nm_u h e9
  clear e9
  refine lv_aload_n (pc := 10) hx hb d_R_assemble_10 rfl (lv_at hl 0 rfl) ?_
  refine lv_iconst (pc := 11) (v := 0) hx hb d_R_assemble_11 (by decide) ?_
  refine pR_0_faultLine (pc := 12) fx hw kw_1090 d_R_assemble_12 (fun σ_10 e9 H locs hw => ?_)
  replace h := nm_u h e9
  clear e9
  refine lv_aload_n (pc := 15) hx hb d_R_assemble_15 rfl (lv_at hl 0 rfl) ?_
  refine lv_iconst (pc := 16) (v := 0) hx hb d_R_assemble_16 (by decide) ?_
  refine pR_0_labelCount (pc := 17) fx hw kw_1094 d_R_assemble_17 (fun σ_11 e9 H locs hw => ?_)
  replace h := nm_u h e9
  clear e9
  refine lv_aload_n (pc := 20) hx hb d_R_assemble_20 rfl (lv_at hl 0 rfl) ?_
  refine lv_iconst (pc := 21) (v := 0) hx hb d_R_assemble_21 (by decide) ?_
  refine pR_0_madeCount (pc := 22) fx hw kw_1100 d_R_assemble_22 (fun σ_12 e9 H locs hw => ?_)
  replace h := nm_u h e9
  clear e9
  refine lv_aload_n (pc := 25) hx hb d_R_assemble_25 rfl (lv_at hl 0 rfl) ?_
  refine lv_iconst (pc := 26) (v := 1) hx hb d_R_assemble_26 (by decide) ?_
  refine cxU (pc := 27) hX fx hw (c_R_pass hX h) cw_R_410 (rcR_0 hw) rfl ⟨Nat.le_of_ble_eq_true rfl, Nat.le_of_ble_eq_true rfl⟩ hl.1 (Nat.le_of_ble_eq_true rfl) d_R_assemble_27 ⟨Nat.zero_le _, Nat.zero_le _⟩ (fun σ_13 H locs hw h => ?_)
  refine lv_aload_n (pc := 30) hx hb d_R_assemble_30 rfl (lv_at hl 0 rfl) ?_
  refine gR_0_fault (pc := 31) fx hw kw_1089 d_R_assemble_31 ?_
  refine lv_if_ne (pc := 34) (tgt := 42) hx hb d_R_assemble_34 (by decide) (fun c9 => ?_) (fun c9 => ?_)
  · replace h := h.2 c9
    exact c_R_assemble_42 hX fx HR h hw (lv_sub hl [0] rfl)
  · replace h := h.1 c9
    refine lv_aload_n (pc := 37) hx hb d_R_assemble_37 rfl (lv_at hl 0 rfl) ?_
    refine lv_iconst (pc := 38) (v := 0) hx hb d_R_assemble_38 (by decide) ?_
    refine cxU (pc := 39) hX fx hw (c_R_pass hX h) cw_R_410 (rcR_0 hw) rfl ⟨Nat.le_of_ble_eq_true rfl, Nat.le_of_ble_eq_true rfl⟩ hl.1 (Nat.le_of_ble_eq_true rfl) d_R_assemble_39 ⟨Nat.zero_le _, Nat.zero_le _⟩ (fun σ_15 H locs hw h => ?_)
    exact c_R_assemble_42 hX fx HR h hw (lv_sub hl [0] rfl)
end
theorem c_R_assemble {l : Launch} {D : va_G} {cA : Nat → ClassId} {a : Nat → Nat} {X : (Nat → Prop) → State → Prop} (hX : XT X) {σ : SS} {post : Int32 → SS → Prop} (h : f_R_assemble post σ) : mI l y_R_assemble b_R_assemble 2 (some .int) 11 259 D vcl (tyl cA) (wR cA a) X σ [.ref (a 0)] post := met_I (by decide) (Nat.le_of_ble_eq_true rfl) (fun p e s m args below meth c A Q fx HR H ls hw hl => e_R_assemble hX fx HR h hw hl)
abbrev r_R_fault : Room := { frames := 1, cells := 0, slots := 0, locals := 22 }
def f_R_fault_15 (post : Int32 → SS → Prop) (σ : SS) (x1 : Int32) (s0 : Int32) : Prop := f_R_fails (fun r_2 σ_1 => br (r_2 = 0) (br (x1 = 0) (post (σ_1.1 13) σ_1) (post (σ_1.1 14) σ_1)) (post 0 σ_1)) σ s0 1
def f_R_fault (post : Int32 → SS → Prop) (σ : SS) (x1 : Int32) : Prop := f_R_within (fun r_4 σ_3 => br (r_4 = 0) (f_R_fault_15 post σ_3 x1 1) (f_R_fault_15 post σ_3 x1 0)) σ x1 0 1
section
variable {p : Program} {l : Launch} {e : Env} {s : State} {m : MethodId} {args : Array Value} {below : List Frame} {meth : Method} {c : Code} {Q : State → Prop} {D : va_G} {cA : Nat → ClassId} {a : Nat → Nat} {X : (Nat → Prop) → State → Prop} {A : Nat → Prop}
set_option maxHeartbeats 4000000 in
set_option maxRecDepth 100000 in
theorem c_R_fault_15 (hX : XT X) (fx : CallFix p m c b_R_fault 2 s args GW RNR) {post : Int32 → SS → Prop} (HR : RetI p l e r_R_fault s m args below meth c Q D vcl (tyl cA) (wR cA a) X A b_R_fault .int post) {σ : SS} {x1 : Int32} {s0 : Int32} {H : Heap} {locs : List Loc} {ls : Array Slot} (h : f_R_fault_15 post σ x1 s0) (hw : CX D vcl (tyl cA) (wR cA a σ) X A s H locs) (hl : lv_has ls 2 [(0, .ref (a 0)), (1, .int x1)]) : W p l e r_R_fault s m args below meth c H locs 0 0 Q (F0 m 15 ls [.int s0, .ref (a 0)]) := by
  have hx := fx.1
  have hb := fx.2.1
  unfold f_R_fault_15 at h
  refine lv_iconst (pc := 15) (v := 1) hx hb d_R_fault_15 (by decide) ?_
  refine cxI (pc := 16) hX fx hw (c_R_fails hX h) cw_R_77 (rcR_0 hw) rfl ⟨Nat.le_of_ble_eq_true rfl, Nat.le_of_ble_eq_true rfl⟩ hl.1 (Nat.le_of_ble_eq_true rfl) d_R_fault_16 ⟨Nat.zero_le _, Nat.zero_le _⟩ (fun r_2 σ_1 H locs hw h => ?_)
  have zr_2 := h.1
  replace h := h.2
  refine lv_if_eq (pc := 19) (tgt := 24) hx hb d_R_fault_19 (by decide) (fun c9 => ?_) (fun c9 => ?_)
  · replace h := h.1 c9
    refine lv_iload_n (pc := 24) hx hb d_R_fault_24 rfl (lv_at hl 1 rfl) ?_
    refine lv_if_ne (pc := 25) (tgt := 35) hx hb d_R_fault_25 (by decide) (fun c9 => ?_) (fun c9 => ?_)
    · replace h := h.2 c9
      refine lv_aload_n (pc := 35) hx hb d_R_fault_35 rfl (lv_at hl 0 rfl) ?_
      refine gR_0_faultLine (pc := 36) fx hw kw_1090 d_R_fault_36 ?_
      exact HR rfl d_R_fault_39 h hw
    · replace h := h.1 c9
      refine lv_aload_n (pc := 28) hx hb d_R_fault_28 rfl (lv_at hl 0 rfl) ?_
      refine gR_0_fault (pc := 29) fx hw kw_1089 d_R_fault_29 ?_
      refine lv_goto (pc := 32) (tgt := 39) hx hb d_R_fault_32 (by decide) ?_
      exact HR rfl d_R_fault_39 h hw
  · replace h := h.2 c9
    refine lv_iconst (pc := 22) (v := 0) hx hb d_R_fault_22 (by decide) ?_
    exact HR rfl d_R_fault_23 h hw
set_option maxHeartbeats 4000000 in
set_option maxRecDepth 100000 in
theorem e_R_fault (hX : XT X) (fx : CallFix p m c b_R_fault 2 s args GW RNR) {post : Int32 → SS → Prop} (HR : RetI p l e r_R_fault s m args below meth c Q D vcl (tyl cA) (wR cA a) X A b_R_fault .int post) {σ : SS} {x1 : Int32} {H : Heap} {locs : List Loc} {ls : Array Slot} (h : f_R_fault post σ x1) (hw : CX D vcl (tyl cA) (wR cA a σ) X A s H locs) (hl : lv_has ls 2 [(0, .ref (a 0)), (1, .int x1)]) : W p l e r_R_fault s m args below meth c H locs 0 0 Q (F0 m 0 ls []) := by
  have hx := fx.1
  have hb := fx.2.1
  unfold f_R_fault at h
  refine lv_aload_n (pc := 0) hx hb d_R_fault_0 rfl (lv_at hl 0 rfl) ?_
  refine lv_iload_n (pc := 1) hx hb d_R_fault_1 rfl (lv_at hl 1 rfl) ?_
  refine lv_iconst (pc := 2) (v := 0) hx hb d_R_fault_2 (by decide) ?_
  refine lv_iconst (pc := 3) (v := 1) hx hb d_R_fault_3 (by decide) ?_
  refine cxSI (pc := 4) hX fx hw (c_R_within hX h) cw_R_72 rfl ⟨Nat.le_of_ble_eq_true rfl, Nat.le_of_ble_eq_true rfl⟩ hl.1 (Nat.le_of_ble_eq_true rfl) d_R_fault_4 ⟨Nat.zero_le _, Nat.zero_le _⟩ (fun r_4 σ_3 H locs hw h => ?_)
  have zr_4 := h.1
  replace h := h.2
  refine lv_if_ne (pc := 7) (tgt := 14) hx hb d_R_fault_7 (by decide) (fun c9 => ?_) (fun c9 => ?_)
  · replace h := h.2 c9
    refine lv_iconst (pc := 14) (v := 0) hx hb d_R_fault_14 (by decide) ?_
    exact c_R_fault_15 hX fx HR h hw (lv_sub hl [0, 1] rfl)
  · replace h := h.1 c9
    refine lv_iconst (pc := 10) (v := 1) hx hb d_R_fault_10 (by decide) ?_
    refine lv_goto (pc := 11) (tgt := 15) hx hb d_R_fault_11 (by decide) ?_
    exact c_R_fault_15 hX fx HR h hw (lv_sub hl [0, 1] rfl)
end
theorem c_R_fault {l : Launch} {D : va_G} {cA : Nat → ClassId} {a : Nat → Nat} {X : (Nat → Prop) → State → Prop} (hX : XT X) {σ : SS} {post : Int32 → SS → Prop} {x1 : Int32} (h : f_R_fault post σ x1) : mI l y_R_fault b_R_fault 2 (some .int) 1 22 D vcl (tyl cA) (wR cA a) X σ [.ref (a 0), .int x1] post := met_I (by decide) (Nat.le_of_ble_eq_true rfl) (fun p e s m args below meth c A Q fx HR H ls hw hl => e_R_fault hX fx HR h hw hl)
abbrev r_R_label : Room := { frames := 1, cells := 0, slots := 0, locals := 24 }
def f_R_label_70 (post : Int32 → SS → Prop) (k7 : SS → Int32 → Int32 → Int32 → Prop) (σ : SS) (x1 : Int32) (x2 : Int32) (x3 : Int32) : Prop := nm (x3 + 1) fun x3_1 => k7 σ x1 x2 x3_1
def f_R_label_7 (post : Int32 → SS → Prop) : Nat → SS → Int32 → Int32 → Int32 → Prop
  | 0, _, _, _, _ => False
  | n + 1, σ, x1, x2, x3 => br ((σ.1 17) ≤ x3) (post (-1) σ) (vp_in x3 200 ∧ vp_in x3 200 ∧ f_R_sizeOf (fun r_3 σ_2 => nm ((σ.2.2.2 12 x3.toNatClampNeg) <<< ((8 * (6 - r_3)).toInt64 &&& 63)) fun x4_4 => br (((x4_4 >>> ((16 : Int32).toInt64 &&& 63)).toInt32) = x1) (br ((((x4_4 &&& 65535).toInt32) <<< ((16 : Int32) &&& 31)) = x2) (vp_in x3 200 ∧ post (σ_2.2.1 13 x3.toNatClampNeg) σ_2) (f_R_label_70 post (f_R_label_7 post n) σ_2 x1 x2 x3)) (f_R_label_70 post (f_R_label_7 post n) σ_2 x1 x2 x3)) σ (σ.2.2.2 12 x3.toNatClampNeg))
def f_R_label (post : Int32 → SS → Prop) (σ : SS) (x1 : Int32) (x2 : Int32) : Prop := nm (sI σ 29 0) fun σ_5 => ∃ n9, f_R_label_7 post n9 σ_5 x1 x2 0
section
variable {p : Program} {l : Launch} {e : Env} {s : State} {m : MethodId} {args : Array Value} {below : List Frame} {meth : Method} {c : Code} {Q : State → Prop} {D : va_G} {cA : Nat → ClassId} {a : Nat → Nat} {X : (Nat → Prop) → State → Prop} {A : Nat → Prop}
set_option maxHeartbeats 4000000 in
set_option maxRecDepth 100000 in
theorem c_R_label_70 (hX : XT X) (fx : CallFix p m c b_R_label 6 s args GW RNR) {post : Int32 → SS → Prop} (HR : RetI p l e r_R_label s m args below meth c Q D vcl (tyl cA) (wR cA a) X A b_R_label .int post) {k7 : SS → Int32 → Int32 → Int32 → Prop} (K7 : ∀ {σ : SS} {x1 : Int32} {x2 : Int32} {x3 : Int32} {H : Heap} {locs : List Loc} {ls : Array Slot}, k7 σ x1 x2 x3 → CX D vcl (tyl cA) (wR cA a σ) X A s H locs → lv_has ls 6 [(0, .ref (a 0)), (1, .int x1), (2, .int x2), (3, .int x3)] → W p l e r_R_label s m args below meth c H locs 0 0 Q (F0 m 7 ls [])) {σ : SS} {x1 : Int32} {x2 : Int32} {x3 : Int32} {H : Heap} {locs : List Loc} {ls : Array Slot} (h : f_R_label_70 post k7 σ x1 x2 x3) (hw : CX D vcl (tyl cA) (wR cA a σ) X A s H locs) (hl : lv_has ls 6 [(0, .ref (a 0)), (1, .int x1), (2, .int x2), (3, .int x3)]) : W p l e r_R_label s m args below meth c H locs 0 0 Q (F0 m 70 ls []) := by
  have hx := fx.1
  have hb := fx.2.1
  unfold f_R_label_70 at h
  obtain ⟨x3_1, e9⟩ : ∃ z : Int32, z = x3 + 1 := ⟨_, rfl⟩
  replace h := nm_u h e9
  refine lv_iinc (pc := 70) (v := x3_1) (lv' := [(3, .int x3_1), (0, .ref (a 0)), (1, .int x1), (2, .int x2)]) hx hb d_R_label_70 hl (k := 3) rfl (by rw [e9]; rfl) (by decide) rfl (fun ls hl => ?_)
  clear e9
  refine lv_goto (pc := 73) (tgt := 7) hx hb d_R_label_73 (by decide) ?_
  exact K7 h hw (lv_sub hl [1, 2, 3, 0] rfl)
set_option maxHeartbeats 4000000 in
set_option maxRecDepth 100000 in
theorem c_R_label_7 (hX : XT X) (fx : CallFix p m c b_R_label 6 s args GW RNR) {post : Int32 → SS → Prop} (HR : RetI p l e r_R_label s m args below meth c Q D vcl (tyl cA) (wR cA a) X A b_R_label .int post) : ∀ (n : Nat) {σ : SS} {x1 : Int32} {x2 : Int32} {x3 : Int32} {H : Heap} {locs : List Loc} {ls : Array Slot}, f_R_label_7 post n σ x1 x2 x3 → CX D vcl (tyl cA) (wR cA a σ) X A s H locs → lv_has ls 6 [(0, .ref (a 0)), (1, .int x1), (2, .int x2), (3, .int x3)] → W p l e r_R_label s m args below meth c H locs 0 0 Q (F0 m 7 ls []) := by
  have hx := fx.1
  have hb := fx.2.1
  intro n
  induction n with
  | zero => intro σ x1 x2 x3 H locs ls h; exact h.elim
  | succ n ih =>
    intro σ x1 x2 x3 H locs ls h hw hl
    have K7 := @ih
    unfold f_R_label_7 at h
    refine lv_iload_n (pc := 7) hx hb d_R_label_7 rfl (lv_at hl 3 rfl) ?_
    refine lv_aload_n (pc := 8) hx hb d_R_label_8 rfl (lv_at hl 0 rfl) ?_
    refine gR_0_keptCount (pc := 9) fx hw kw_1097 d_R_label_9 ?_
    refine lv_icmp_ge (pc := 12) (tgt := 76) hx hb d_R_label_12 (by decide) (fun c9 => ?_) (fun c9 => ?_)
    · replace h := h.1 c9
      refine lv_iconst (pc := 76) (v := (-1)) hx hb d_R_label_76 (by decide) ?_
      exact HR rfl d_R_label_77 h hw
    · replace h := h.2 c9
      refine lv_aload_n (pc := 15) hx hb d_R_label_15 rfl (lv_at hl 0 rfl) ?_
      refine gR_0_kept (pc := 16) fx hw kw_1095 d_R_label_16 ?_
      refine lv_iload_n (pc := 19) hx hb d_R_label_19 rfl (lv_at hl 3 rfl) ?_
      refine alR_12 (pc := 20) fx hw h.1 d_R_label_20 ?_
      replace h := h.2
      refine lv_bipush (pc := 21) (v := 8) hx hb d_R_label_21 (by decide) ?_
      refine lv_bipush (pc := 23) (v := 6) hx hb d_R_label_23 (by decide) ?_
      refine lv_aload_n (pc := 25) hx hb d_R_label_25 rfl (lv_at hl 0 rfl) ?_
      refine gR_0_kept (pc := 26) fx hw kw_1095 d_R_label_26 ?_
      refine lv_iload_n (pc := 29) hx hb d_R_label_29 rfl (lv_at hl 3 rfl) ?_
      refine alR_12 (pc := 30) fx hw h.1 d_R_label_30 ?_
      replace h := h.2
      refine cxSI (pc := 31) hX fx hw (c_R_sizeOf hX h) cw_R_198 rfl ⟨Nat.le_of_ble_eq_true rfl, Nat.le_of_ble_eq_true rfl⟩ hl.1 (Nat.le_of_ble_eq_true rfl) d_R_label_31 ⟨Nat.zero_le _, Nat.zero_le _⟩ (fun r_3 σ_2 H locs hw h => ?_)
      refine lv_isub (pc := 34) hx hb d_R_label_34 ?_
      refine lv_imul (pc := 35) hx hb d_R_label_35 ?_
      refine lv_lshl (pc := 36) hx hb d_R_label_36 rfl ?_
      refine lv_topl (fun x4_4 e9 => ?_)
      replace h := nm_u h e9
      clear e9
      refine lv_lstore (pc := 37) (lv' := [(4, .long x4_4), (0, .ref (a 0)), (1, .int x1), (2, .int x2), (3, .int x3)]) hx hb d_R_label_37 hl (by decide) rfl (fun ls hl => ?_)
      refine lv_lload (pc := 39) hx hb d_R_label_39 (lv_at hl 0 rfl) ?_
      refine lv_bipush (pc := 41) (v := 16) hx hb d_R_label_41 (by decide) ?_
      refine lv_lshr (pc := 43) hx hb d_R_label_43 rfl ?_
      refine lv_l2i (pc := 44) hx hb d_R_label_44 rfl ?_
      refine lv_iload_n (pc := 45) hx hb d_R_label_45 rfl (lv_at hl 2 rfl) ?_
      refine lv_icmp_ne (pc := 46) (tgt := 70) hx hb d_R_label_46 (by decide) (fun c9 => ?_) (fun c9 => ?_)
      · replace h := h.2 c9
        exact c_R_label_70 hX fx HR K7 h hw (lv_sub hl [1, 2, 3, 4] rfl)
      · replace h := h.1 c9
        refine lv_lload (pc := 49) hx hb d_R_label_49 (lv_at hl 0 rfl) ?_
        refine lv_ldc2 (pc := 51) (v := 65535) hx hb fx.2.2.2.1 (fx.2.2.2.2 _ kw_1503) d_R_label_51 ?_
        refine lv_land (pc := 54) hx hb d_R_label_54 ?_
        refine lv_l2i (pc := 55) hx hb d_R_label_55 rfl ?_
        refine lv_bipush (pc := 56) (v := 16) hx hb d_R_label_56 (by decide) ?_
        refine lv_ishl (pc := 58) hx hb d_R_label_58 ?_
        refine lv_iload_n (pc := 59) hx hb d_R_label_59 rfl (lv_at hl 3 rfl) ?_
        refine lv_icmp_ne (pc := 60) (tgt := 70) hx hb d_R_label_60 (by decide) (fun c9 => ?_) (fun c9 => ?_)
        · replace h := h.2 c9
          exact c_R_label_70 hX fx HR K7 h hw (lv_sub hl [1, 2, 3, 4] rfl)
        · replace h := h.1 c9
          refine lv_aload_n (pc := 63) hx hb d_R_label_63 rfl (lv_at hl 1 rfl) ?_
          refine gR_0_keptPlaces (pc := 64) fx hw kw_1096 d_R_label_64 ?_
          refine lv_iload_n (pc := 67) hx hb d_R_label_67 rfl (lv_at hl 4 rfl) ?_
          refine alR_13 (pc := 68) fx hw h.1 d_R_label_68 ?_
          replace h := h.2
          exact HR rfl d_R_label_69 h hw
set_option maxHeartbeats 4000000 in
set_option maxRecDepth 100000 in
theorem e_R_label (hX : XT X) (fx : CallFix p m c b_R_label 6 s args GW RNR) {post : Int32 → SS → Prop} (HR : RetI p l e r_R_label s m args below meth c Q D vcl (tyl cA) (wR cA a) X A b_R_label .int post) {σ : SS} {x1 : Int32} {x2 : Int32} {H : Heap} {locs : List Loc} {ls : Array Slot} (h : f_R_label post σ x1 x2) (hw : CX D vcl (tyl cA) (wR cA a σ) X A s H locs) (hl : lv_has ls 6 [(0, .ref (a 0)), (1, .int x1), (2, .int x2)]) : W p l e r_R_label s m args below meth c H locs 0 0 Q (F0 m 0 ls []) := by
  have hx := fx.1
  have hb := fx.2.1
  unfold f_R_label at h
  refine lv_aload_n (pc := 0) hx hb d_R_label_0 rfl (lv_at hl 0 rfl) ?_
  refine lv_iconst (pc := 1) (v := 0) hx hb d_R_label_1 (by decide) ?_
  refine pR_0_thrown (pc := 2) fx hw kw_1115 d_R_label_2 (fun σ_5 e9 H locs hw => ?_)
  replace h := nm_u h e9
  clear e9
  refine lv_iconst (pc := 5) (v := 0) hx hb d_R_label_5 (by decide) ?_
  refine lv_istore_n (pc := 6) (lv' := [(3, .int 0), (0, .ref (a 0)), (1, .int x1), (2, .int x2)]) hx hb d_R_label_6 rfl hl (by decide) rfl (fun ls hl => ?_)
  obtain ⟨n9, h⟩ := h
  exact c_R_label_7 hX fx HR n9 h hw (lv_sub hl [1, 2, 3, 0] rfl)
end
theorem c_R_label {l : Launch} {D : va_G} {cA : Nat → ClassId} {a : Nat → Nat} {X : (Nat → Prop) → State → Prop} (hX : XT X) {σ : SS} {post : Int32 → SS → Prop} {x1 : Int32} {x2 : Int32} (h : f_R_label post σ x1 x2) : mI l y_R_label b_R_label 6 (some .int) 1 24 D vcl (tyl cA) (wR cA a) X σ [.ref (a 0), .int x1, .int x2] post := met_I (by decide) (Nat.le_of_ble_eq_true rfl) (fun p e s m args below meth c A Q fx HR H ls hw hl => e_R_label hX fx HR h hw hl)
abbrev r_R_say : Room := { frames := 0, cells := 0, slots := 0, locals := 0 }
def f_R_say (post : SS → Prop) (σ : SS) (x1 : Int32) : Prop := vp_in (σ.1 28) 40 ∧ nm (sA σ 18 (σ.1 28).toNatClampNeg x1) fun σ_1 => nm (sI σ_1 28 ((σ_1.1 28) + 1)) fun σ_2 => post σ_2
section
variable {p : Program} {l : Launch} {e : Env} {s : State} {m : MethodId} {args : Array Value} {below : List Frame} {meth : Method} {c : Code} {Q : State → Prop} {D : va_G} {cA : Nat → ClassId} {a : Nat → Nat} {X : (Nat → Prop) → State → Prop} {A : Nat → Prop}
set_option maxHeartbeats 4000000 in
set_option maxRecDepth 100000 in
theorem e_R_say (hX : XT X) (fx : CallFix p m c b_R_say 2 s args GW RNR) {post : SS → Prop} (HR : RetV p l e r_R_say s m args below meth c Q D vcl (tyl cA) (wR cA a) X A b_R_say post) {σ : SS} {x1 : Int32} {H : Heap} {locs : List Loc} {ls : Array Slot} (h : f_R_say post σ x1) (hw : CX D vcl (tyl cA) (wR cA a σ) X A s H locs) (hl : lv_has ls 2 [(0, .ref (a 0)), (1, .int x1)]) : W p l e r_R_say s m args below meth c H locs 0 0 Q (F0 m 0 ls []) := by
  have hx := fx.1
  have hb := fx.2.1
  unfold f_R_say at h
  refine lv_aload_n (pc := 0) hx hb d_R_say_0 rfl (lv_at hl 0 rfl) ?_
  refine gR_0_told (pc := 1) fx hw kw_1113 d_R_say_1 ?_
  refine lv_aload_n (pc := 4) hx hb d_R_say_4 rfl (lv_at hl 0 rfl) ?_
  refine gR_0_toldSize (pc := 5) fx hw kw_1114 d_R_say_5 ?_
  refine lv_iload_n (pc := 8) hx hb d_R_say_8 rfl (lv_at hl 1 rfl) ?_
  refine asR_18 (pc := 9) fx hw h.1 d_R_say_9 (fun σ_1 e9 H locs hw => ?_)
  replace h := nm_u h.2 e9
  clear e9
  refine lv_aload_n (pc := 10) hx hb d_R_say_10 rfl (lv_at hl 0 rfl) ?_
  refine lv_dup (pc := 11) hx hb d_R_say_11 rfl ?_
  refine gR_0_toldSize (pc := 12) fx hw kw_1114 d_R_say_12 ?_
  refine lv_iconst (pc := 15) (v := 1) hx hb d_R_say_15 (by decide) ?_
  refine lv_iadd (pc := 16) hx hb d_R_say_16 ?_
  refine pR_0_toldSize (pc := 17) fx hw kw_1114 d_R_say_17 (fun σ_2 e9 H locs hw => ?_)
  replace h := nm_u h e9
  clear e9
  exact HR d_R_say_20 h hw
end
theorem c_R_say {l : Launch} {D : va_G} {cA : Nat → ClassId} {a : Nat → Nat} {X : (Nat → Prop) → State → Prop} (hX : XT X) {σ : SS} {post : SS → Prop} {x1 : Int32} (h : f_R_say post σ x1) : mV l y_R_say b_R_say 2 none 0 0 D vcl (tyl cA) (wR cA a) X σ [.ref (a 0), .int x1] post := met_V (by decide) (Nat.le_of_ble_eq_true rfl) (fun p e s m args below meth c A Q fx HR H ls hw hl => e_R_say hX fx HR h hw hl)
abbrev r_R_sayName : Room := { frames := 2, cells := 0, slots := 0, locals := 46 }
def f_R_sayName_2 (post : SS → Prop) : Nat → SS → Int64 → Int32 → Prop
  | 0, _, _, _ => False
  | n + 1, σ, x1, x3 => f_R_sizeOf (fun r_2 σ_1 => br (r_2 ≤ x3) (post σ_1) (f_R_letter (fun r_4 σ_3 => f_R_say (fun σ_5 => nm (x3 + 1) fun x3_7 => f_R_sayName_2 post n σ_5 x1 x3_7) σ_3 r_4) σ_1 x1 x3)) σ x1
def f_R_sayName (post : SS → Prop) (σ : SS) (x1 : Int64) : Prop := ∃ n9, f_R_sayName_2 post n9 σ x1 0
section
variable {p : Program} {l : Launch} {e : Env} {s : State} {m : MethodId} {args : Array Value} {below : List Frame} {meth : Method} {c : Code} {Q : State → Prop} {D : va_G} {cA : Nat → ClassId} {a : Nat → Nat} {X : (Nat → Prop) → State → Prop} {A : Nat → Prop}
set_option maxHeartbeats 4000000 in
set_option maxRecDepth 100000 in
theorem c_R_sayName_2 (hX : XT X) (fx : CallFix p m c b_R_sayName 4 s args GW RNR) {post : SS → Prop} (HR : RetV p l e r_R_sayName s m args below meth c Q D vcl (tyl cA) (wR cA a) X A b_R_sayName post) : ∀ (n : Nat) {σ : SS} {x1 : Int64} {x3 : Int32} {H : Heap} {locs : List Loc} {ls : Array Slot}, f_R_sayName_2 post n σ x1 x3 → CX D vcl (tyl cA) (wR cA a σ) X A s H locs → lv_has ls 4 [(0, .ref (a 0)), (1, .long x1), (3, .int x3)] → W p l e r_R_sayName s m args below meth c H locs 0 0 Q (F0 m 2 ls []) := by
  have hx := fx.1
  have hb := fx.2.1
  intro n
  induction n with
  | zero => intro σ x1 x3 H locs ls h; exact h.elim
  | succ n ih =>
    intro σ x1 x3 H locs ls h hw hl
    have K2 := @ih
    unfold f_R_sayName_2 at h
    refine lv_iload_n (pc := 2) hx hb d_R_sayName_2 rfl (lv_at hl 2 rfl) ?_
    refine lv_lload_n (pc := 3) hx hb d_R_sayName_3 rfl (lv_at hl 1 rfl) ?_
    refine cxSI (pc := 4) hX fx hw (c_R_sizeOf hX h) cw_R_198 rfl ⟨Nat.le_of_ble_eq_true rfl, Nat.le_of_ble_eq_true rfl⟩ hl.1 (Nat.le_of_ble_eq_true rfl) d_R_sayName_4 ⟨Nat.zero_le _, Nat.zero_le _⟩ (fun r_2 σ_1 H locs hw h => ?_)
    refine lv_icmp_ge (pc := 7) (tgt := 25) hx hb d_R_sayName_7 (by decide) (fun c9 => ?_) (fun c9 => ?_)
    · replace h := h.1 c9
      exact HR d_R_sayName_25 h hw
    · replace h := h.2 c9
      refine lv_aload_n (pc := 10) hx hb d_R_sayName_10 rfl (lv_at hl 0 rfl) ?_
      refine lv_lload_n (pc := 11) hx hb d_R_sayName_11 rfl (lv_at hl 1 rfl) ?_
      refine lv_iload_n (pc := 12) hx hb d_R_sayName_12 rfl (lv_at hl 2 rfl) ?_
      refine cxSI (pc := 13) hX fx hw (c_R_letter hX h) cw_R_297 rfl ⟨Nat.le_of_ble_eq_true rfl, Nat.le_of_ble_eq_true rfl⟩ hl.1 (Nat.le_of_ble_eq_true rfl) d_R_sayName_13 ⟨Nat.zero_le _, Nat.zero_le _⟩ (fun r_4 σ_3 H locs hw h => ?_)
      refine cxU (pc := 16) hX fx hw (c_R_say hX h) cw_R_415 (rcR_0 hw) rfl ⟨Nat.le_of_ble_eq_true rfl, Nat.le_of_ble_eq_true rfl⟩ hl.1 (Nat.le_of_ble_eq_true rfl) d_R_sayName_16 ⟨Nat.zero_le _, Nat.zero_le _⟩ (fun σ_5 H locs hw h => ?_)
      obtain ⟨x3_7, e9⟩ : ∃ z : Int32, z = x3 + 1 := ⟨_, rfl⟩
      replace h := nm_u h e9
      refine lv_iinc (pc := 19) (v := x3_7) (lv' := [(3, .int x3_7), (0, .ref (a 0)), (1, .long x1)]) hx hb d_R_sayName_19 hl (k := 2) rfl (by rw [e9]; rfl) (by decide) rfl (fun ls hl => ?_)
      clear e9
      refine lv_goto (pc := 22) (tgt := 2) hx hb d_R_sayName_22 (by decide) ?_
      exact K2 h hw (lv_sub hl [1, 2, 0] rfl)
set_option maxHeartbeats 4000000 in
set_option maxRecDepth 100000 in
theorem e_R_sayName (hX : XT X) (fx : CallFix p m c b_R_sayName 4 s args GW RNR) {post : SS → Prop} (HR : RetV p l e r_R_sayName s m args below meth c Q D vcl (tyl cA) (wR cA a) X A b_R_sayName post) {σ : SS} {x1 : Int64} {H : Heap} {locs : List Loc} {ls : Array Slot} (h : f_R_sayName post σ x1) (hw : CX D vcl (tyl cA) (wR cA a σ) X A s H locs) (hl : lv_has ls 4 [(0, .ref (a 0)), (1, .long x1)]) : W p l e r_R_sayName s m args below meth c H locs 0 0 Q (F0 m 0 ls []) := by
  have hx := fx.1
  have hb := fx.2.1
  unfold f_R_sayName at h
  refine lv_iconst (pc := 0) (v := 0) hx hb d_R_sayName_0 (by decide) ?_
  refine lv_istore_n (pc := 1) (lv' := [(3, .int 0), (0, .ref (a 0)), (1, .long x1)]) hx hb d_R_sayName_1 rfl hl (by decide) rfl (fun ls hl => ?_)
  obtain ⟨n9, h⟩ := h
  exact c_R_sayName_2 hX fx HR n9 h hw (lv_sub hl [1, 2, 0] rfl)
end
theorem c_R_sayName {l : Launch} {D : va_G} {cA : Nat → ClassId} {a : Nat → Nat} {X : (Nat → Prop) → State → Prop} (hX : XT X) {σ : SS} {post : SS → Prop} {x1 : Int64} (h : f_R_sayName post σ x1) : mV l y_R_sayName b_R_sayName 4 none 2 46 D vcl (tyl cA) (wR cA a) X σ [.ref (a 0), .long x1] post := met_V (by decide) (Nat.le_of_ble_eq_true rfl) (fun p e s m args below meth c A Q fx HR H ls hw hl => e_R_sayName hX fx HR h hw hl)
abbrev r_R_octal : Room := { frames := 1, cells := 0, slots := 0, locals := 21 }
def f_R_octal_18 (post : SS → Prop) : Nat → SS → Int32 → Int32 → Prop
  | 0, _, _, _ => False
  | n + 1, σ, x1, x2 => br (x2 ≤ 0) (post σ) ((¬ x2 = 0) ∧ f_R_say (fun σ_1 => nm (x2 / 8) fun x2_3 => f_R_octal_18 post n σ_1 x1 x2_3) σ (48 + ((x1 / x2) - (x1 / x2) / 8 * 8)))
def f_R_octal_2 (post : SS → Prop) : Nat → SS → Int32 → Int32 → Prop
  | 0, _, _, _ => False
  | n + 1, σ, x1, x2 => (¬ x2 = 0) ∧ br ((x1 / x2) ≤ 7) (∃ n9, f_R_octal_18 post n9 σ x1 x2) (nm (8 * x2) fun x2_4 => f_R_octal_2 post n σ x1 x2_4)
def f_R_octal (post : SS → Prop) (σ : SS) (x1 : Int32) : Prop := ∃ n9, f_R_octal_2 post n9 σ x1 1
section
variable {p : Program} {l : Launch} {e : Env} {s : State} {m : MethodId} {args : Array Value} {below : List Frame} {meth : Method} {c : Code} {Q : State → Prop} {D : va_G} {cA : Nat → ClassId} {a : Nat → Nat} {X : (Nat → Prop) → State → Prop} {A : Nat → Prop}
set_option maxHeartbeats 4000000 in
set_option maxRecDepth 100000 in
theorem c_R_octal_18 (hX : XT X) (fx : CallFix p m c b_R_octal 3 s args GW RNR) {post : SS → Prop} (HR : RetV p l e r_R_octal s m args below meth c Q D vcl (tyl cA) (wR cA a) X A b_R_octal post) : ∀ (n : Nat) {σ : SS} {x1 : Int32} {x2 : Int32} {H : Heap} {locs : List Loc} {ls : Array Slot}, f_R_octal_18 post n σ x1 x2 → CX D vcl (tyl cA) (wR cA a σ) X A s H locs → lv_has ls 3 [(0, .ref (a 0)), (1, .int x1), (2, .int x2)] → W p l e r_R_octal s m args below meth c H locs 0 0 Q (F0 m 18 ls []) := by
  have hx := fx.1
  have hb := fx.2.1
  intro n
  induction n with
  | zero => intro σ x1 x2 H locs ls h; exact h.elim
  | succ n ih =>
    intro σ x1 x2 H locs ls h hw hl
    have K18 := @ih
    unfold f_R_octal_18 at h
    refine lv_iload_n (pc := 18) hx hb d_R_octal_18 rfl (lv_at hl 2 rfl) ?_
    refine lv_if_le (pc := 19) (tgt := 43) hx hb d_R_octal_19 (by decide) (fun c9 => ?_) (fun c9 => ?_)
    · replace h := h.1 c9
      exact HR d_R_octal_43 h hw
    · replace h := h.2 c9
      refine lv_aload_n (pc := 22) hx hb d_R_octal_22 rfl (lv_at hl 0 rfl) ?_
      refine lv_bipush (pc := 23) (v := 48) hx hb d_R_octal_23 (by decide) ?_
      refine lv_iload_n (pc := 25) hx hb d_R_octal_25 rfl (lv_at hl 1 rfl) ?_
      refine lv_iload_n (pc := 26) hx hb d_R_octal_26 rfl (lv_at hl 2 rfl) ?_
      refine lv_idiv (pc := 27) hx hb d_R_octal_27 h.1 ?_
      replace h := h.2
      refine lv_bipush (pc := 28) (v := 8) hx hb d_R_octal_28 (by decide) ?_
      refine lv_irem (pc := 30) hx hb d_R_octal_30 (by decide) ?_
      refine lv_iadd (pc := 31) hx hb d_R_octal_31 ?_
      refine cxU (pc := 32) hX fx hw (c_R_say hX h) cw_R_415 (rcR_0 hw) rfl ⟨Nat.le_of_ble_eq_true rfl, Nat.le_of_ble_eq_true rfl⟩ hl.1 (Nat.le_of_ble_eq_true rfl) d_R_octal_32 ⟨Nat.zero_le _, Nat.zero_le _⟩ (fun σ_1 H locs hw h => ?_)
      refine lv_iload_n (pc := 35) hx hb d_R_octal_35 rfl (lv_at hl 2 rfl) ?_
      refine lv_bipush (pc := 36) (v := 8) hx hb d_R_octal_36 (by decide) ?_
      refine lv_idiv (pc := 38) hx hb d_R_octal_38 (by decide) ?_
      refine lv_topi (fun x2_3 e9 => ?_)
      replace h := nm_u h e9
      clear e9
      refine lv_istore_n (pc := 39) (lv' := [(2, .int x2_3), (0, .ref (a 0)), (1, .int x1)]) hx hb d_R_octal_39 rfl hl (by decide) rfl (fun ls hl => ?_)
      refine lv_goto (pc := 40) (tgt := 18) hx hb d_R_octal_40 (by decide) ?_
      exact K18 h hw (lv_sub hl [1, 2, 0] rfl)
set_option maxHeartbeats 4000000 in
set_option maxRecDepth 100000 in
theorem c_R_octal_2 (hX : XT X) (fx : CallFix p m c b_R_octal 3 s args GW RNR) {post : SS → Prop} (HR : RetV p l e r_R_octal s m args below meth c Q D vcl (tyl cA) (wR cA a) X A b_R_octal post) : ∀ (n : Nat) {σ : SS} {x1 : Int32} {x2 : Int32} {H : Heap} {locs : List Loc} {ls : Array Slot}, f_R_octal_2 post n σ x1 x2 → CX D vcl (tyl cA) (wR cA a σ) X A s H locs → lv_has ls 3 [(0, .ref (a 0)), (1, .int x1), (2, .int x2)] → W p l e r_R_octal s m args below meth c H locs 0 0 Q (F0 m 2 ls []) := by
  have hx := fx.1
  have hb := fx.2.1
  intro n
  induction n with
  | zero => intro σ x1 x2 H locs ls h; exact h.elim
  | succ n ih =>
    intro σ x1 x2 H locs ls h hw hl
    have K2 := @ih
    unfold f_R_octal_2 at h
    refine lv_iload_n (pc := 2) hx hb d_R_octal_2 rfl (lv_at hl 1 rfl) ?_
    refine lv_iload_n (pc := 3) hx hb d_R_octal_3 rfl (lv_at hl 2 rfl) ?_
    refine lv_idiv (pc := 4) hx hb d_R_octal_4 h.1 ?_
    replace h := h.2
    refine lv_bipush (pc := 5) (v := 7) hx hb d_R_octal_5 (by decide) ?_
    refine lv_icmp_le (pc := 7) (tgt := 18) hx hb d_R_octal_7 (by decide) (fun c9 => ?_) (fun c9 => ?_)
    · replace h := h.1 c9
      obtain ⟨n9, h⟩ := h
      exact c_R_octal_18 hX fx HR n9 h hw (lv_sub hl [0, 1, 2] rfl)
    · replace h := h.2 c9
      refine lv_bipush (pc := 10) (v := 8) hx hb d_R_octal_10 (by decide) ?_
      refine lv_iload_n (pc := 12) hx hb d_R_octal_12 rfl (lv_at hl 2 rfl) ?_
      refine lv_imul (pc := 13) hx hb d_R_octal_13 ?_
      refine lv_topi (fun x2_4 e9 => ?_)
      replace h := nm_u h e9
      clear e9
      refine lv_istore_n (pc := 14) (lv' := [(2, .int x2_4), (0, .ref (a 0)), (1, .int x1)]) hx hb d_R_octal_14 rfl hl (by decide) rfl (fun ls hl => ?_)
      refine lv_goto (pc := 15) (tgt := 2) hx hb d_R_octal_15 (by decide) ?_
      exact K2 h hw (lv_sub hl [1, 2, 0] rfl)
set_option maxHeartbeats 4000000 in
set_option maxRecDepth 100000 in
theorem e_R_octal (hX : XT X) (fx : CallFix p m c b_R_octal 3 s args GW RNR) {post : SS → Prop} (HR : RetV p l e r_R_octal s m args below meth c Q D vcl (tyl cA) (wR cA a) X A b_R_octal post) {σ : SS} {x1 : Int32} {H : Heap} {locs : List Loc} {ls : Array Slot} (h : f_R_octal post σ x1) (hw : CX D vcl (tyl cA) (wR cA a σ) X A s H locs) (hl : lv_has ls 3 [(0, .ref (a 0)), (1, .int x1)]) : W p l e r_R_octal s m args below meth c H locs 0 0 Q (F0 m 0 ls []) := by
  have hx := fx.1
  have hb := fx.2.1
  unfold f_R_octal at h
  refine lv_iconst (pc := 0) (v := 1) hx hb d_R_octal_0 (by decide) ?_
  refine lv_istore_n (pc := 1) (lv' := [(2, .int 1), (0, .ref (a 0)), (1, .int x1)]) hx hb d_R_octal_1 rfl hl (by decide) rfl (fun ls hl => ?_)
  obtain ⟨n9, h⟩ := h
  exact c_R_octal_2 hX fx HR n9 h hw (lv_sub hl [1, 2, 0] rfl)
end
theorem c_R_octal {l : Launch} {D : va_G} {cA : Nat → ClassId} {a : Nat → Nat} {X : (Nat → Prop) → State → Prop} (hX : XT X) {σ : SS} {post : SS → Prop} {x1 : Int32} (h : f_R_octal post σ x1) : mV l y_R_octal b_R_octal 3 none 1 21 D vcl (tyl cA) (wR cA a) X σ [.ref (a 0), .int x1] post := met_V (by decide) (Nat.le_of_ble_eq_true rfl) (fun p e s m args below meth c A Q fx HR H ls hw hl => e_R_octal hX fx HR h hw hl)
abbrev r_R_sayAddress : Room := { frames := 2, cells := 0, slots := 0, locals := 43 }
def f_R_sayAddress_50 (post : SS → Prop) (σ : SS) (x2 : Int32) (s0 : Int32) : Prop := f_R_octal (fun σ_1 => br (x2 = 0) (post σ_1) (f_R_say (fun σ_3 => f_R_octal (fun σ_5 => post σ_5) σ_3 x2) σ_1 44)) σ s0
def f_R_sayAddress_17 (post : SS → Prop) (σ : SS) (x1 : Int32) : Prop := nm ((x1 / 256) - (x1 / 256) / 4 * 4) fun x2_7 => nm (x1 - x1 / 256 * 256) fun x3_8 => br (x2_7 ≤ 0) (f_R_sayAddress_50 post σ x2_7 x3_8) (br (x3_8 ≤ 127) (f_R_sayAddress_50 post σ x2_7 x3_8) (f_R_sayAddress_50 post σ x2_7 (x3_8 + 65280)))
def f_R_sayAddress (post : SS → Prop) (σ : SS) (x1 : Int32) : Prop := br (((x1 / 1024) - (x1 / 1024) / 2 * 2) = 1) (f_R_say (fun σ_9 => f_R_sayAddress_17 post σ_9 x1) σ 64) (f_R_sayAddress_17 post σ x1)
section
variable {p : Program} {l : Launch} {e : Env} {s : State} {m : MethodId} {args : Array Value} {below : List Frame} {meth : Method} {c : Code} {Q : State → Prop} {D : va_G} {cA : Nat → ClassId} {a : Nat → Nat} {X : (Nat → Prop) → State → Prop} {A : Nat → Prop}
set_option maxHeartbeats 4000000 in
set_option maxRecDepth 100000 in
theorem c_R_sayAddress_50 (hX : XT X) (fx : CallFix p m c b_R_sayAddress 4 s args GW RNR) {post : SS → Prop} (HR : RetV p l e r_R_sayAddress s m args below meth c Q D vcl (tyl cA) (wR cA a) X A b_R_sayAddress post) {σ : SS} {x2 : Int32} {s0 : Int32} {H : Heap} {locs : List Loc} {ls : Array Slot} (h : f_R_sayAddress_50 post σ x2 s0) (hw : CX D vcl (tyl cA) (wR cA a σ) X A s H locs) (hl : lv_has ls 4 [(0, .ref (a 0)), (2, .int x2)]) : W p l e r_R_sayAddress s m args below meth c H locs 0 0 Q (F0 m 50 ls [.int s0, .ref (a 0)]) := by
  have hx := fx.1
  have hb := fx.2.1
  unfold f_R_sayAddress_50 at h
  refine cxU (pc := 50) hX fx hw (c_R_octal hX h) cw_R_418 (rcR_0 hw) rfl ⟨Nat.le_of_ble_eq_true rfl, Nat.le_of_ble_eq_true rfl⟩ hl.1 (Nat.le_of_ble_eq_true rfl) d_R_sayAddress_50 ⟨Nat.zero_le _, Nat.zero_le _⟩ (fun σ_1 H locs hw h => ?_)
  refine lv_iload_n (pc := 53) hx hb d_R_sayAddress_53 rfl (lv_at hl 1 rfl) ?_
  refine lv_if_ne (pc := 54) (tgt := 58) hx hb d_R_sayAddress_54 (by decide) (fun c9 => ?_) (fun c9 => ?_)
  · replace h := h.2 c9
    refine lv_aload_n (pc := 58) hx hb d_R_sayAddress_58 rfl (lv_at hl 0 rfl) ?_
    refine lv_bipush (pc := 59) (v := 44) hx hb d_R_sayAddress_59 (by decide) ?_
    refine cxU (pc := 61) hX fx hw (c_R_say hX h) cw_R_415 (rcR_0 hw) rfl ⟨Nat.le_of_ble_eq_true rfl, Nat.le_of_ble_eq_true rfl⟩ hl.1 (Nat.le_of_ble_eq_true rfl) d_R_sayAddress_61 ⟨Nat.zero_le _, Nat.zero_le _⟩ (fun σ_3 H locs hw h => ?_)
    refine lv_aload_n (pc := 64) hx hb d_R_sayAddress_64 rfl (lv_at hl 0 rfl) ?_
    refine lv_iload_n (pc := 65) hx hb d_R_sayAddress_65 rfl (lv_at hl 1 rfl) ?_
    refine cxU (pc := 66) hX fx hw (c_R_octal hX h) cw_R_418 (rcR_0 hw) rfl ⟨Nat.le_of_ble_eq_true rfl, Nat.le_of_ble_eq_true rfl⟩ hl.1 (Nat.le_of_ble_eq_true rfl) d_R_sayAddress_66 ⟨Nat.zero_le _, Nat.zero_le _⟩ (fun σ_5 H locs hw h => ?_)
    exact HR d_R_sayAddress_69 h hw
  · replace h := h.1 c9
    exact HR d_R_sayAddress_57 h hw
set_option maxHeartbeats 4000000 in
set_option maxRecDepth 100000 in
theorem c_R_sayAddress_17 (hX : XT X) (fx : CallFix p m c b_R_sayAddress 4 s args GW RNR) {post : SS → Prop} (HR : RetV p l e r_R_sayAddress s m args below meth c Q D vcl (tyl cA) (wR cA a) X A b_R_sayAddress post) {σ : SS} {x1 : Int32} {H : Heap} {locs : List Loc} {ls : Array Slot} (h : f_R_sayAddress_17 post σ x1) (hw : CX D vcl (tyl cA) (wR cA a σ) X A s H locs) (hl : lv_has ls 4 [(0, .ref (a 0)), (1, .int x1)]) : W p l e r_R_sayAddress s m args below meth c H locs 0 0 Q (F0 m 17 ls []) := by
  have hx := fx.1
  have hb := fx.2.1
  unfold f_R_sayAddress_17 at h
  refine lv_iload_n (pc := 17) hx hb d_R_sayAddress_17 rfl (lv_at hl 1 rfl) ?_
  refine lv_sipush (pc := 18) (v := 256) hx hb d_R_sayAddress_18 (by decide) ?_
  refine lv_idiv (pc := 21) hx hb d_R_sayAddress_21 (by decide) ?_
  refine lv_iconst (pc := 22) (v := 4) hx hb d_R_sayAddress_22 (by decide) ?_
  refine lv_irem (pc := 23) hx hb d_R_sayAddress_23 (by decide) ?_
  refine lv_topi (fun x2_7 e9 => ?_)
  replace h := nm_u h e9
  clear e9
  refine lv_istore_n (pc := 24) (lv' := [(2, .int x2_7), (0, .ref (a 0)), (1, .int x1)]) hx hb d_R_sayAddress_24 rfl hl (by decide) rfl (fun ls hl => ?_)
  refine lv_iload_n (pc := 25) hx hb d_R_sayAddress_25 rfl (lv_at hl 2 rfl) ?_
  refine lv_sipush (pc := 26) (v := 256) hx hb d_R_sayAddress_26 (by decide) ?_
  refine lv_irem (pc := 29) hx hb d_R_sayAddress_29 (by decide) ?_
  refine lv_topi (fun x3_8 e9 => ?_)
  replace h := nm_u h e9
  clear e9
  refine lv_istore_n (pc := 30) (lv' := [(3, .int x3_8), (2, .int x2_7), (0, .ref (a 0)), (1, .int x1)]) hx hb d_R_sayAddress_30 rfl hl (by decide) rfl (fun ls hl => ?_)
  refine lv_aload_n (pc := 31) hx hb d_R_sayAddress_31 rfl (lv_at hl 2 rfl) ?_
  refine lv_iload_n (pc := 32) hx hb d_R_sayAddress_32 rfl (lv_at hl 1 rfl) ?_
  refine lv_if_le (pc := 33) (tgt := 49) hx hb d_R_sayAddress_33 (by decide) (fun c9 => ?_) (fun c9 => ?_)
  · replace h := h.1 c9
    refine lv_iload_n (pc := 49) hx hb d_R_sayAddress_49 rfl (lv_at hl 0 rfl) ?_
    exact c_R_sayAddress_50 hX fx HR h hw (lv_sub hl [2, 1] rfl)
  · replace h := h.2 c9
    refine lv_iload_n (pc := 36) hx hb d_R_sayAddress_36 rfl (lv_at hl 0 rfl) ?_
    refine lv_bipush (pc := 37) (v := 127) hx hb d_R_sayAddress_37 (by decide) ?_
    refine lv_icmp_le (pc := 39) (tgt := 49) hx hb d_R_sayAddress_39 (by decide) (fun c9 => ?_) (fun c9 => ?_)
    · replace h := h.1 c9
      refine lv_iload_n (pc := 49) hx hb d_R_sayAddress_49 rfl (lv_at hl 0 rfl) ?_
      exact c_R_sayAddress_50 hX fx HR h hw (lv_sub hl [2, 1] rfl)
    · replace h := h.2 c9
      refine lv_iload_n (pc := 42) hx hb d_R_sayAddress_42 rfl (lv_at hl 0 rfl) ?_
      refine lv_ldc (pc := 43) (v := 65280) hx hb fx.2.2.2.1 (fx.2.2.2.2 _ kw_1305) d_R_sayAddress_43 ?_
      refine lv_iadd (pc := 45) hx hb d_R_sayAddress_45 ?_
      refine lv_goto (pc := 46) (tgt := 50) hx hb d_R_sayAddress_46 (by decide) ?_
      exact c_R_sayAddress_50 hX fx HR h hw (lv_sub hl [2, 1] rfl)
set_option maxHeartbeats 4000000 in
set_option maxRecDepth 100000 in
theorem e_R_sayAddress (hX : XT X) (fx : CallFix p m c b_R_sayAddress 4 s args GW RNR) {post : SS → Prop} (HR : RetV p l e r_R_sayAddress s m args below meth c Q D vcl (tyl cA) (wR cA a) X A b_R_sayAddress post) {σ : SS} {x1 : Int32} {H : Heap} {locs : List Loc} {ls : Array Slot} (h : f_R_sayAddress post σ x1) (hw : CX D vcl (tyl cA) (wR cA a σ) X A s H locs) (hl : lv_has ls 4 [(0, .ref (a 0)), (1, .int x1)]) : W p l e r_R_sayAddress s m args below meth c H locs 0 0 Q (F0 m 0 ls []) := by
  have hx := fx.1
  have hb := fx.2.1
  unfold f_R_sayAddress at h
  refine lv_iload_n (pc := 0) hx hb d_R_sayAddress_0 rfl (lv_at hl 1 rfl) ?_
  refine lv_sipush (pc := 1) (v := 1024) hx hb d_R_sayAddress_1 (by decide) ?_
  refine lv_idiv (pc := 4) hx hb d_R_sayAddress_4 (by decide) ?_
  refine lv_iconst (pc := 5) (v := 2) hx hb d_R_sayAddress_5 (by decide) ?_
  refine lv_irem (pc := 6) hx hb d_R_sayAddress_6 (by decide) ?_
  refine lv_iconst (pc := 7) (v := 1) hx hb d_R_sayAddress_7 (by decide) ?_
  refine lv_icmp_ne (pc := 8) (tgt := 17) hx hb d_R_sayAddress_8 (by decide) (fun c9 => ?_) (fun c9 => ?_)
  · replace h := h.2 c9
    exact c_R_sayAddress_17 hX fx HR h hw (lv_sub hl [0, 1] rfl)
  · replace h := h.1 c9
    refine lv_aload_n (pc := 11) hx hb d_R_sayAddress_11 rfl (lv_at hl 0 rfl) ?_
    refine lv_bipush (pc := 12) (v := 64) hx hb d_R_sayAddress_12 (by decide) ?_
    refine cxU (pc := 14) hX fx hw (c_R_say hX h) cw_R_415 (rcR_0 hw) rfl ⟨Nat.le_of_ble_eq_true rfl, Nat.le_of_ble_eq_true rfl⟩ hl.1 (Nat.le_of_ble_eq_true rfl) d_R_sayAddress_14 ⟨Nat.zero_le _, Nat.zero_le _⟩ (fun σ_9 H locs hw h => ?_)
    exact c_R_sayAddress_17 hX fx HR h hw (lv_sub hl [0, 1] rfl)
end
theorem c_R_sayAddress {l : Launch} {D : va_G} {cA : Nat → ClassId} {a : Nat → Nat} {X : (Nat → Prop) → State → Prop} (hX : XT X) {σ : SS} {post : SS → Prop} {x1 : Int32} (h : f_R_sayAddress post σ x1) : mV l y_R_sayAddress b_R_sayAddress 4 none 2 43 D vcl (tyl cA) (wR cA a) X σ [.ref (a 0), .int x1] post := met_V (by decide) (Nat.le_of_ble_eq_true rfl) (fun p e s m args below meth c A Q fx HR H ls hw hl => e_R_sayAddress hX fx HR h hw hl)
abbrev r_R_functionName : Room := { frames := 0, cells := 0, slots := 0, locals := 0 }
def f_R_functionName (post : Int64 → SS → Prop) (σ : SS) (x0 : Int32) : Prop := br (x0 = (0 : Int32)) (post 4411213 σ) (br (x0 = (1 : Int32)) (post 5129543 σ) (br (x0 = (2 : Int32)) (post 5066582 σ) (br (x0 = (3 : Int32)) (post 4804163 σ) (br (x0 = (4 : Int32)) (post 4277315 σ) (br (x0 = (5 : Int32)) (post 5461314 σ) (br (x0 = (6 : Int32)) (post 4277316 σ) (post 4279876 σ)))))))
section
variable {p : Program} {l : Launch} {e : Env} {s : State} {m : MethodId} {args : Array Value} {below : List Frame} {meth : Method} {c : Code} {Q : State → Prop} {D : va_G} {cA : Nat → ClassId} {a : Nat → Nat} {X : (Nat → Prop) → State → Prop} {A : Nat → Prop}
set_option maxHeartbeats 4000000 in
set_option maxRecDepth 100000 in
theorem e_R_functionName (hX : XT X) (fx : CallFix p m c b_R_functionName 1 s args GW RNR) {post : Int64 → SS → Prop} (HR : RetJ p l e r_R_functionName s m args below meth c Q D vcl (tyl cA) (wR cA a) X A b_R_functionName post) {σ : SS} {x0 : Int32} {H : Heap} {locs : List Loc} {ls : Array Slot} (h : f_R_functionName post σ x0) (hw : CX D vcl (tyl cA) (wR cA a σ) X A s H locs) (hl : lv_has ls 1 [(0, .int x0)]) : W p l e r_R_functionName s m args below meth c H locs 0 0 Q (F0 m 0 ls []) := by
  have hx := fx.1
  have hb := fx.2.1
  unfold f_R_functionName at h
  refine lv_iload_n (pc := 0) hx hb d_R_functionName_0 rfl (lv_at hl 0 rfl) ?_
  by_cases cq_1 : x0 = (0 : Int32)
  · replace h := h.1 cq_1
    refine lv_tableIn (pc := 1) (off := 43) (tgt := 44) hx hb d_R_functionName_1 (by rw [cq_1]; decide) (by rw [cq_1]; decide) (by rw [cq_1]; rfl) (by decide) ?_
    refine lv_ldc2 (pc := 44) (v := 4411213) hx hb fx.2.2.2.1 (fx.2.2.2.2 _ kw_1384) d_R_functionName_44 ?_
    exact HR d_R_functionName_47 h hw
  replace h := h.2 cq_1
  by_cases cq_2 : x0 = (1 : Int32)
  · replace h := h.1 cq_2
    refine lv_tableIn (pc := 1) (off := 47) (tgt := 48) hx hb d_R_functionName_1 (by rw [cq_2]; decide) (by rw [cq_2]; decide) (by rw [cq_2]; rfl) (by decide) ?_
    refine lv_ldc2 (pc := 48) (v := 5129543) hx hb fx.2.2.2.1 (fx.2.2.2.2 _ kw_1385) d_R_functionName_48 ?_
    exact HR d_R_functionName_51 h hw
  replace h := h.2 cq_2
  by_cases cq_3 : x0 = (2 : Int32)
  · replace h := h.1 cq_3
    refine lv_tableIn (pc := 1) (off := 51) (tgt := 52) hx hb d_R_functionName_1 (by rw [cq_3]; decide) (by rw [cq_3]; decide) (by rw [cq_3]; rfl) (by decide) ?_
    refine lv_ldc2 (pc := 52) (v := 5066582) hx hb fx.2.2.2.1 (fx.2.2.2.2 _ kw_1386) d_R_functionName_52 ?_
    exact HR d_R_functionName_55 h hw
  replace h := h.2 cq_3
  by_cases cq_4 : x0 = (3 : Int32)
  · replace h := h.1 cq_4
    refine lv_tableIn (pc := 1) (off := 55) (tgt := 56) hx hb d_R_functionName_1 (by rw [cq_4]; decide) (by rw [cq_4]; decide) (by rw [cq_4]; rfl) (by decide) ?_
    refine lv_ldc2 (pc := 56) (v := 4804163) hx hb fx.2.2.2.1 (fx.2.2.2.2 _ kw_1387) d_R_functionName_56 ?_
    exact HR d_R_functionName_59 h hw
  replace h := h.2 cq_4
  by_cases cq_5 : x0 = (4 : Int32)
  · replace h := h.1 cq_5
    refine lv_tableIn (pc := 1) (off := 59) (tgt := 60) hx hb d_R_functionName_1 (by rw [cq_5]; decide) (by rw [cq_5]; decide) (by rw [cq_5]; rfl) (by decide) ?_
    refine lv_ldc2 (pc := 60) (v := 4277315) hx hb fx.2.2.2.1 (fx.2.2.2.2 _ kw_1388) d_R_functionName_60 ?_
    exact HR d_R_functionName_63 h hw
  replace h := h.2 cq_5
  by_cases cq_6 : x0 = (5 : Int32)
  · replace h := h.1 cq_6
    refine lv_tableIn (pc := 1) (off := 63) (tgt := 64) hx hb d_R_functionName_1 (by rw [cq_6]; decide) (by rw [cq_6]; decide) (by rw [cq_6]; rfl) (by decide) ?_
    refine lv_ldc2 (pc := 64) (v := 5461314) hx hb fx.2.2.2.1 (fx.2.2.2.2 _ kw_1389) d_R_functionName_64 ?_
    exact HR d_R_functionName_67 h hw
  replace h := h.2 cq_6
  by_cases cq_7 : x0 = (6 : Int32)
  · replace h := h.1 cq_7
    refine lv_tableIn (pc := 1) (off := 67) (tgt := 68) hx hb d_R_functionName_1 (by rw [cq_7]; decide) (by rw [cq_7]; decide) (by rw [cq_7]; rfl) (by decide) ?_
    refine lv_ldc2 (pc := 68) (v := 4277316) hx hb fx.2.2.2.1 (fx.2.2.2.2 _ kw_1390) d_R_functionName_68 ?_
    exact HR d_R_functionName_71 h hw
  replace h := h.2 cq_7
  refine lv_tableOut (pc := 1) (tgt := 72) hx hb d_R_functionName_1 (by have := lv_neT cq_1 (a := 0) (by decide); have := lv_neT cq_2 (a := 1) (by decide); have := lv_neT cq_3 (a := 2) (by decide); have := lv_neT cq_4 (a := 3) (by decide); have := lv_neT cq_5 (a := 4) (by decide); have := lv_neT cq_6 (a := 5) (by decide); have := lv_neT cq_7 (a := 6) (by decide); omega) (by decide) ?_
  refine lv_ldc2 (pc := 72) (v := 4279876) hx hb fx.2.2.2.1 (fx.2.2.2.2 _ kw_1391) d_R_functionName_72 ?_
  exact HR d_R_functionName_75 h hw
end
theorem c_R_functionName {l : Launch} {D : va_G} {cA : Nat → ClassId} {a : Nat → Nat} {X : (Nat → Prop) → State → Prop} (hX : XT X) {σ : SS} {post : Int64 → SS → Prop} {x0 : Int32} (h : f_R_functionName post σ x0) : mJ l y_R_functionName b_R_functionName 1 (some .long) 0 0 D vcl (tyl cA) (wR cA a) X σ [.int x0] post := met_J (by decide) (Nat.le_of_ble_eq_true rfl) (fun p e s m args below meth c A Q fx HR H ls hw hl => e_R_functionName hX fx HR h hw hl)
abbrev r_R_skipName : Room := { frames := 0, cells := 0, slots := 0, locals := 0 }
def f_R_skipName (post : Int64 → SS → Prop) (σ : SS) (x0 : Int32) : Prop := br (x0 = (1 : Int32)) (post 5458768 σ) (br (x0 = (2 : Int32)) (post 5462595 σ) (br (x0 = (3 : Int32)) (post 5459523 σ) (br (x0 = (4 : Int32)) (post 5462610 σ) (br (x0 = (5 : Int32)) (post 5459538 σ) (br (x0 = (6 : Int32)) (post 5457242 σ) (post 5456462 σ))))))
section
variable {p : Program} {l : Launch} {e : Env} {s : State} {m : MethodId} {args : Array Value} {below : List Frame} {meth : Method} {c : Code} {Q : State → Prop} {D : va_G} {cA : Nat → ClassId} {a : Nat → Nat} {X : (Nat → Prop) → State → Prop} {A : Nat → Prop}
set_option maxHeartbeats 4000000 in
set_option maxRecDepth 100000 in
theorem e_R_skipName (hX : XT X) (fx : CallFix p m c b_R_skipName 1 s args GW RNR) {post : Int64 → SS → Prop} (HR : RetJ p l e r_R_skipName s m args below meth c Q D vcl (tyl cA) (wR cA a) X A b_R_skipName post) {σ : SS} {x0 : Int32} {H : Heap} {locs : List Loc} {ls : Array Slot} (h : f_R_skipName post σ x0) (hw : CX D vcl (tyl cA) (wR cA a σ) X A s H locs) (hl : lv_has ls 1 [(0, .int x0)]) : W p l e r_R_skipName s m args below meth c H locs 0 0 Q (F0 m 0 ls []) := by
  have hx := fx.1
  have hb := fx.2.1
  unfold f_R_skipName at h
  refine lv_iload_n (pc := 0) hx hb d_R_skipName_0 rfl (lv_at hl 0 rfl) ?_
  by_cases cq_1 : x0 = (1 : Int32)
  · replace h := h.1 cq_1
    refine lv_tableIn (pc := 1) (off := 39) (tgt := 40) hx hb d_R_skipName_1 (by rw [cq_1]; decide) (by rw [cq_1]; decide) (by rw [cq_1]; rfl) (by decide) ?_
    refine lv_ldc2 (pc := 40) (v := 5458768) hx hb fx.2.2.2.1 (fx.2.2.2.2 _ kw_1455) d_R_skipName_40 ?_
    exact HR d_R_skipName_43 h hw
  replace h := h.2 cq_1
  by_cases cq_2 : x0 = (2 : Int32)
  · replace h := h.1 cq_2
    refine lv_tableIn (pc := 1) (off := 43) (tgt := 44) hx hb d_R_skipName_1 (by rw [cq_2]; decide) (by rw [cq_2]; decide) (by rw [cq_2]; rfl) (by decide) ?_
    refine lv_ldc2 (pc := 44) (v := 5462595) hx hb fx.2.2.2.1 (fx.2.2.2.2 _ kw_1456) d_R_skipName_44 ?_
    exact HR d_R_skipName_47 h hw
  replace h := h.2 cq_2
  by_cases cq_3 : x0 = (3 : Int32)
  · replace h := h.1 cq_3
    refine lv_tableIn (pc := 1) (off := 47) (tgt := 48) hx hb d_R_skipName_1 (by rw [cq_3]; decide) (by rw [cq_3]; decide) (by rw [cq_3]; rfl) (by decide) ?_
    refine lv_ldc2 (pc := 48) (v := 5459523) hx hb fx.2.2.2.1 (fx.2.2.2.2 _ kw_1457) d_R_skipName_48 ?_
    exact HR d_R_skipName_51 h hw
  replace h := h.2 cq_3
  by_cases cq_4 : x0 = (4 : Int32)
  · replace h := h.1 cq_4
    refine lv_tableIn (pc := 1) (off := 51) (tgt := 52) hx hb d_R_skipName_1 (by rw [cq_4]; decide) (by rw [cq_4]; decide) (by rw [cq_4]; rfl) (by decide) ?_
    refine lv_ldc2 (pc := 52) (v := 5462610) hx hb fx.2.2.2.1 (fx.2.2.2.2 _ kw_1458) d_R_skipName_52 ?_
    exact HR d_R_skipName_55 h hw
  replace h := h.2 cq_4
  by_cases cq_5 : x0 = (5 : Int32)
  · replace h := h.1 cq_5
    refine lv_tableIn (pc := 1) (off := 55) (tgt := 56) hx hb d_R_skipName_1 (by rw [cq_5]; decide) (by rw [cq_5]; decide) (by rw [cq_5]; rfl) (by decide) ?_
    refine lv_ldc2 (pc := 56) (v := 5459538) hx hb fx.2.2.2.1 (fx.2.2.2.2 _ kw_1459) d_R_skipName_56 ?_
    exact HR d_R_skipName_59 h hw
  replace h := h.2 cq_5
  by_cases cq_6 : x0 = (6 : Int32)
  · replace h := h.1 cq_6
    refine lv_tableIn (pc := 1) (off := 59) (tgt := 60) hx hb d_R_skipName_1 (by rw [cq_6]; decide) (by rw [cq_6]; decide) (by rw [cq_6]; rfl) (by decide) ?_
    refine lv_ldc2 (pc := 60) (v := 5457242) hx hb fx.2.2.2.1 (fx.2.2.2.2 _ kw_1460) d_R_skipName_60 ?_
    exact HR d_R_skipName_63 h hw
  replace h := h.2 cq_6
  refine lv_tableOut (pc := 1) (tgt := 64) hx hb d_R_skipName_1 (by have := lv_neT cq_1 (a := 1) (by decide); have := lv_neT cq_2 (a := 2) (by decide); have := lv_neT cq_3 (a := 3) (by decide); have := lv_neT cq_4 (a := 4) (by decide); have := lv_neT cq_5 (a := 5) (by decide); have := lv_neT cq_6 (a := 6) (by decide); omega) (by decide) ?_
  refine lv_ldc2 (pc := 64) (v := 5456462) hx hb fx.2.2.2.1 (fx.2.2.2.2 _ kw_1461) d_R_skipName_64 ?_
  exact HR d_R_skipName_67 h hw
end
theorem c_R_skipName {l : Launch} {D : va_G} {cA : Nat → ClassId} {a : Nat → Nat} {X : (Nat → Prop) → State → Prop} (hX : XT X) {σ : SS} {post : Int64 → SS → Prop} {x0 : Int32} (h : f_R_skipName post σ x0) : mJ l y_R_skipName b_R_skipName 1 (some .long) 0 0 D vcl (tyl cA) (wR cA a) X σ [.int x0] post := met_J (by decide) (Nat.le_of_ble_eq_true rfl) (fun p e s m args below meth c A Q fx HR H ls hw hl => e_R_skipName hX fx HR h hw hl)
abbrev r_R_sayReckoning : Room := { frames := 3, cells := 0, slots := 0, locals := 69 }
def f_R_sayReckoning_105 (post : SS → Prop) (σ : SS) (x1 : Int32) : Prop := f_R_say (fun σ_1 => f_R_octal (fun σ_3 => f_R_say (fun σ_5 => f_R_octal (fun σ_7 => br ((x1 - x1 / 8 * 8) = 0) (post σ_7) (f_R_say (fun σ_9 => f_R_skipName (fun r_12 σ_11 => f_R_sayName (fun σ_13 => post σ_13) σ_11 r_12) σ_9 (x1 - x1 / 8 * 8)) σ_7 44)) σ_5 ((x1 / 2048) - (x1 / 2048) / 4 * 4)) σ_3 44) σ_1 ((x1 / 8192) - (x1 / 8192) / 4 * 4)) σ 32
def f_R_sayReckoning_89 (post : SS → Prop) (σ : SS) (x1 : Int32) : Prop := br (((x1 / 8) - (x1 / 8) / 2 * 2) = 1) (f_R_say (fun σ_15 => f_R_sayReckoning_105 post σ_15 x1) σ 35) (f_R_sayReckoning_105 post σ x1)
def f_R_sayReckoning_86 (post : SS → Prop) (σ : SS) (x1 : Int32) (s0 : Int32) : Prop := f_R_say (fun σ_17 => f_R_sayReckoning_89 post σ_17 x1) σ s0
def f_R_sayReckoning_59 (post : SS → Prop) (σ : SS) (x1 : Int32) (x3 : Int32) : Prop := br (x3 ≤ 0) (f_R_sayReckoning_89 post σ x1) (br (x3 = 1) (f_R_sayReckoning_86 post σ x1 76) (br (x3 = 2) (f_R_sayReckoning_86 post σ x1 82) (f_R_sayReckoning_86 post σ x1 83)))
def f_R_sayReckoning_56 (post : SS → Prop) (σ : SS) (x1 : Int32) (x3 : Int32) (s0 : Int32) : Prop := f_R_say (fun σ_19 => f_R_sayReckoning_59 post σ_19 x1 x3) σ s0
def f_R_sayReckoning (post : SS → Prop) (σ : SS) (x1 : Int32) : Prop := f_R_functionName (fun r_22 σ_21 => f_R_sayName (fun σ_23 => nm ((x1 / 16) - (x1 / 16) / 4 * 4) fun x2_25 => nm ((x1 / 64) - (x1 / 64) / 4 * 4) fun x3_26 => br (x2_25 ≤ 0) (f_R_sayReckoning_59 post σ_23 x1 x3_26) (br (x2_25 = 1) (f_R_sayReckoning_56 post σ_23 x1 x3_26 90) (br (x2_25 = 2) (f_R_sayReckoning_56 post σ_23 x1 x3_26 79) (f_R_sayReckoning_56 post σ_23 x1 x3_26 67)))) σ_21 r_22) σ ((x1 / 256) - (x1 / 256) / 8 * 8)
section
variable {p : Program} {l : Launch} {e : Env} {s : State} {m : MethodId} {args : Array Value} {below : List Frame} {meth : Method} {c : Code} {Q : State → Prop} {D : va_G} {cA : Nat → ClassId} {a : Nat → Nat} {X : (Nat → Prop) → State → Prop} {A : Nat → Prop}
set_option maxHeartbeats 4000000 in
set_option maxRecDepth 100000 in
theorem c_R_sayReckoning_105 (hX : XT X) (fx : CallFix p m c b_R_sayReckoning 4 s args GW RNR) {post : SS → Prop} (HR : RetV p l e r_R_sayReckoning s m args below meth c Q D vcl (tyl cA) (wR cA a) X A b_R_sayReckoning post) {σ : SS} {x1 : Int32} {H : Heap} {locs : List Loc} {ls : Array Slot} (h : f_R_sayReckoning_105 post σ x1) (hw : CX D vcl (tyl cA) (wR cA a σ) X A s H locs) (hl : lv_has ls 4 [(0, .ref (a 0)), (1, .int x1)]) : W p l e r_R_sayReckoning s m args below meth c H locs 0 0 Q (F0 m 105 ls []) := by
  have hx := fx.1
  have hb := fx.2.1
  unfold f_R_sayReckoning_105 at h
  refine lv_aload_n (pc := 105) hx hb d_R_sayReckoning_105 rfl (lv_at hl 0 rfl) ?_
  refine lv_bipush (pc := 106) (v := 32) hx hb d_R_sayReckoning_106 (by decide) ?_
  refine cxU (pc := 108) hX fx hw (c_R_say hX h) cw_R_415 (rcR_0 hw) rfl ⟨Nat.le_of_ble_eq_true rfl, Nat.le_of_ble_eq_true rfl⟩ hl.1 (Nat.le_of_ble_eq_true rfl) d_R_sayReckoning_108 ⟨Nat.zero_le _, Nat.zero_le _⟩ (fun σ_1 H locs hw h => ?_)
  refine lv_aload_n (pc := 111) hx hb d_R_sayReckoning_111 rfl (lv_at hl 0 rfl) ?_
  refine lv_iload_n (pc := 112) hx hb d_R_sayReckoning_112 rfl (lv_at hl 1 rfl) ?_
  refine lv_sipush (pc := 113) (v := 8192) hx hb d_R_sayReckoning_113 (by decide) ?_
  refine lv_idiv (pc := 116) hx hb d_R_sayReckoning_116 (by decide) ?_
  refine lv_iconst (pc := 117) (v := 4) hx hb d_R_sayReckoning_117 (by decide) ?_
  refine lv_irem (pc := 118) hx hb d_R_sayReckoning_118 (by decide) ?_
  refine cxU (pc := 119) hX fx hw (c_R_octal hX h) cw_R_418 (rcR_0 hw) rfl ⟨Nat.le_of_ble_eq_true rfl, Nat.le_of_ble_eq_true rfl⟩ hl.1 (Nat.le_of_ble_eq_true rfl) d_R_sayReckoning_119 ⟨Nat.zero_le _, Nat.zero_le _⟩ (fun σ_3 H locs hw h => ?_)
  refine lv_aload_n (pc := 122) hx hb d_R_sayReckoning_122 rfl (lv_at hl 0 rfl) ?_
  refine lv_bipush (pc := 123) (v := 44) hx hb d_R_sayReckoning_123 (by decide) ?_
  refine cxU (pc := 125) hX fx hw (c_R_say hX h) cw_R_415 (rcR_0 hw) rfl ⟨Nat.le_of_ble_eq_true rfl, Nat.le_of_ble_eq_true rfl⟩ hl.1 (Nat.le_of_ble_eq_true rfl) d_R_sayReckoning_125 ⟨Nat.zero_le _, Nat.zero_le _⟩ (fun σ_5 H locs hw h => ?_)
  refine lv_aload_n (pc := 128) hx hb d_R_sayReckoning_128 rfl (lv_at hl 0 rfl) ?_
  refine lv_iload_n (pc := 129) hx hb d_R_sayReckoning_129 rfl (lv_at hl 1 rfl) ?_
  refine lv_sipush (pc := 130) (v := 2048) hx hb d_R_sayReckoning_130 (by decide) ?_
  refine lv_idiv (pc := 133) hx hb d_R_sayReckoning_133 (by decide) ?_
  refine lv_iconst (pc := 134) (v := 4) hx hb d_R_sayReckoning_134 (by decide) ?_
  refine lv_irem (pc := 135) hx hb d_R_sayReckoning_135 (by decide) ?_
  refine cxU (pc := 136) hX fx hw (c_R_octal hX h) cw_R_418 (rcR_0 hw) rfl ⟨Nat.le_of_ble_eq_true rfl, Nat.le_of_ble_eq_true rfl⟩ hl.1 (Nat.le_of_ble_eq_true rfl) d_R_sayReckoning_136 ⟨Nat.zero_le _, Nat.zero_le _⟩ (fun σ_7 H locs hw h => ?_)
  refine lv_iload_n (pc := 139) hx hb d_R_sayReckoning_139 rfl (lv_at hl 1 rfl) ?_
  refine lv_bipush (pc := 140) (v := 8) hx hb d_R_sayReckoning_140 (by decide) ?_
  refine lv_irem (pc := 142) hx hb d_R_sayReckoning_142 (by decide) ?_
  refine lv_if_ne (pc := 143) (tgt := 147) hx hb d_R_sayReckoning_143 (by decide) (fun c9 => ?_) (fun c9 => ?_)
  · replace h := h.2 c9
    refine lv_aload_n (pc := 147) hx hb d_R_sayReckoning_147 rfl (lv_at hl 0 rfl) ?_
    refine lv_bipush (pc := 148) (v := 44) hx hb d_R_sayReckoning_148 (by decide) ?_
    refine cxU (pc := 150) hX fx hw (c_R_say hX h) cw_R_415 (rcR_0 hw) rfl ⟨Nat.le_of_ble_eq_true rfl, Nat.le_of_ble_eq_true rfl⟩ hl.1 (Nat.le_of_ble_eq_true rfl) d_R_sayReckoning_150 ⟨Nat.zero_le _, Nat.zero_le _⟩ (fun σ_9 H locs hw h => ?_)
    refine lv_aload_n (pc := 153) hx hb d_R_sayReckoning_153 rfl (lv_at hl 0 rfl) ?_
    refine lv_iload_n (pc := 154) hx hb d_R_sayReckoning_154 rfl (lv_at hl 1 rfl) ?_
    refine lv_bipush (pc := 155) (v := 8) hx hb d_R_sayReckoning_155 (by decide) ?_
    refine lv_irem (pc := 157) hx hb d_R_sayReckoning_157 (by decide) ?_
    refine cxSJ (pc := 158) hX fx hw (c_R_skipName hX h) cw_R_428 rfl ⟨Nat.le_of_ble_eq_true rfl, Nat.le_of_ble_eq_true rfl⟩ hl.1 (Nat.le_of_ble_eq_true rfl) d_R_sayReckoning_158 ⟨Nat.zero_le _, Nat.zero_le _⟩ (fun r_12 σ_11 H locs hw h => ?_)
    refine cxU (pc := 161) hX fx hw (c_R_sayName hX h) cw_R_425 (rcR_0 hw) rfl ⟨Nat.le_of_ble_eq_true rfl, Nat.le_of_ble_eq_true rfl⟩ hl.1 (Nat.le_of_ble_eq_true rfl) d_R_sayReckoning_161 ⟨Nat.zero_le _, Nat.zero_le _⟩ (fun σ_13 H locs hw h => ?_)
    exact HR d_R_sayReckoning_164 h hw
  · replace h := h.1 c9
    exact HR d_R_sayReckoning_146 h hw
set_option maxHeartbeats 4000000 in
set_option maxRecDepth 100000 in
theorem c_R_sayReckoning_89 (hX : XT X) (fx : CallFix p m c b_R_sayReckoning 4 s args GW RNR) {post : SS → Prop} (HR : RetV p l e r_R_sayReckoning s m args below meth c Q D vcl (tyl cA) (wR cA a) X A b_R_sayReckoning post) {σ : SS} {x1 : Int32} {H : Heap} {locs : List Loc} {ls : Array Slot} (h : f_R_sayReckoning_89 post σ x1) (hw : CX D vcl (tyl cA) (wR cA a σ) X A s H locs) (hl : lv_has ls 4 [(0, .ref (a 0)), (1, .int x1)]) : W p l e r_R_sayReckoning s m args below meth c H locs 0 0 Q (F0 m 89 ls []) := by
  have hx := fx.1
  have hb := fx.2.1
  unfold f_R_sayReckoning_89 at h
  refine lv_iload_n (pc := 89) hx hb d_R_sayReckoning_89 rfl (lv_at hl 1 rfl) ?_
  refine lv_bipush (pc := 90) (v := 8) hx hb d_R_sayReckoning_90 (by decide) ?_
  refine lv_idiv (pc := 92) hx hb d_R_sayReckoning_92 (by decide) ?_
  refine lv_iconst (pc := 93) (v := 2) hx hb d_R_sayReckoning_93 (by decide) ?_
  refine lv_irem (pc := 94) hx hb d_R_sayReckoning_94 (by decide) ?_
  refine lv_iconst (pc := 95) (v := 1) hx hb d_R_sayReckoning_95 (by decide) ?_
  refine lv_icmp_ne (pc := 96) (tgt := 105) hx hb d_R_sayReckoning_96 (by decide) (fun c9 => ?_) (fun c9 => ?_)
  · replace h := h.2 c9
    exact c_R_sayReckoning_105 hX fx HR h hw (lv_sub hl [0, 1] rfl)
  · replace h := h.1 c9
    refine lv_aload_n (pc := 99) hx hb d_R_sayReckoning_99 rfl (lv_at hl 0 rfl) ?_
    refine lv_bipush (pc := 100) (v := 35) hx hb d_R_sayReckoning_100 (by decide) ?_
    refine cxU (pc := 102) hX fx hw (c_R_say hX h) cw_R_415 (rcR_0 hw) rfl ⟨Nat.le_of_ble_eq_true rfl, Nat.le_of_ble_eq_true rfl⟩ hl.1 (Nat.le_of_ble_eq_true rfl) d_R_sayReckoning_102 ⟨Nat.zero_le _, Nat.zero_le _⟩ (fun σ_15 H locs hw h => ?_)
    exact c_R_sayReckoning_105 hX fx HR h hw (lv_sub hl [0, 1] rfl)
set_option maxHeartbeats 4000000 in
set_option maxRecDepth 100000 in
theorem c_R_sayReckoning_86 (hX : XT X) (fx : CallFix p m c b_R_sayReckoning 4 s args GW RNR) {post : SS → Prop} (HR : RetV p l e r_R_sayReckoning s m args below meth c Q D vcl (tyl cA) (wR cA a) X A b_R_sayReckoning post) {σ : SS} {x1 : Int32} {s0 : Int32} {H : Heap} {locs : List Loc} {ls : Array Slot} (h : f_R_sayReckoning_86 post σ x1 s0) (hw : CX D vcl (tyl cA) (wR cA a σ) X A s H locs) (hl : lv_has ls 4 [(0, .ref (a 0)), (1, .int x1)]) : W p l e r_R_sayReckoning s m args below meth c H locs 0 0 Q (F0 m 86 ls [.int s0, .ref (a 0)]) := by
  have hx := fx.1
  have hb := fx.2.1
  unfold f_R_sayReckoning_86 at h
  refine cxU (pc := 86) hX fx hw (c_R_say hX h) cw_R_415 (rcR_0 hw) rfl ⟨Nat.le_of_ble_eq_true rfl, Nat.le_of_ble_eq_true rfl⟩ hl.1 (Nat.le_of_ble_eq_true rfl) d_R_sayReckoning_86 ⟨Nat.zero_le _, Nat.zero_le _⟩ (fun σ_17 H locs hw h => ?_)
  exact c_R_sayReckoning_89 hX fx HR h hw (lv_sub hl [0, 1] rfl)
set_option maxHeartbeats 4000000 in
set_option maxRecDepth 100000 in
theorem c_R_sayReckoning_59 (hX : XT X) (fx : CallFix p m c b_R_sayReckoning 4 s args GW RNR) {post : SS → Prop} (HR : RetV p l e r_R_sayReckoning s m args below meth c Q D vcl (tyl cA) (wR cA a) X A b_R_sayReckoning post) {σ : SS} {x1 : Int32} {x3 : Int32} {H : Heap} {locs : List Loc} {ls : Array Slot} (h : f_R_sayReckoning_59 post σ x1 x3) (hw : CX D vcl (tyl cA) (wR cA a σ) X A s H locs) (hl : lv_has ls 4 [(0, .ref (a 0)), (1, .int x1), (3, .int x3)]) : W p l e r_R_sayReckoning s m args below meth c H locs 0 0 Q (F0 m 59 ls []) := by
  have hx := fx.1
  have hb := fx.2.1
  unfold f_R_sayReckoning_59 at h
  refine lv_iload_n (pc := 59) hx hb d_R_sayReckoning_59 rfl (lv_at hl 2 rfl) ?_
  refine lv_if_le (pc := 60) (tgt := 89) hx hb d_R_sayReckoning_60 (by decide) (fun c9 => ?_) (fun c9 => ?_)
  · replace h := h.1 c9
    exact c_R_sayReckoning_89 hX fx HR h hw (lv_sub hl [0, 1] rfl)
  · replace h := h.2 c9
    refine lv_aload_n (pc := 63) hx hb d_R_sayReckoning_63 rfl (lv_at hl 0 rfl) ?_
    refine lv_iload_n (pc := 64) hx hb d_R_sayReckoning_64 rfl (lv_at hl 2 rfl) ?_
    refine lv_iconst (pc := 65) (v := 1) hx hb d_R_sayReckoning_65 (by decide) ?_
    refine lv_icmp_ne (pc := 66) (tgt := 74) hx hb d_R_sayReckoning_66 (by decide) (fun c9 => ?_) (fun c9 => ?_)
    · replace h := h.2 c9
      refine lv_iload_n (pc := 74) hx hb d_R_sayReckoning_74 rfl (lv_at hl 2 rfl) ?_
      refine lv_iconst (pc := 75) (v := 2) hx hb d_R_sayReckoning_75 (by decide) ?_
      refine lv_icmp_ne (pc := 76) (tgt := 84) hx hb d_R_sayReckoning_76 (by decide) (fun c9 => ?_) (fun c9 => ?_)
      · replace h := h.2 c9
        refine lv_bipush (pc := 84) (v := 83) hx hb d_R_sayReckoning_84 (by decide) ?_
        exact c_R_sayReckoning_86 hX fx HR h hw (lv_sub hl [0, 1] rfl)
      · replace h := h.1 c9
        refine lv_bipush (pc := 79) (v := 82) hx hb d_R_sayReckoning_79 (by decide) ?_
        refine lv_goto (pc := 81) (tgt := 86) hx hb d_R_sayReckoning_81 (by decide) ?_
        exact c_R_sayReckoning_86 hX fx HR h hw (lv_sub hl [0, 1] rfl)
    · replace h := h.1 c9
      refine lv_bipush (pc := 69) (v := 76) hx hb d_R_sayReckoning_69 (by decide) ?_
      refine lv_goto (pc := 71) (tgt := 86) hx hb d_R_sayReckoning_71 (by decide) ?_
      exact c_R_sayReckoning_86 hX fx HR h hw (lv_sub hl [0, 1] rfl)
set_option maxHeartbeats 4000000 in
set_option maxRecDepth 100000 in
theorem c_R_sayReckoning_56 (hX : XT X) (fx : CallFix p m c b_R_sayReckoning 4 s args GW RNR) {post : SS → Prop} (HR : RetV p l e r_R_sayReckoning s m args below meth c Q D vcl (tyl cA) (wR cA a) X A b_R_sayReckoning post) {σ : SS} {x1 : Int32} {x3 : Int32} {s0 : Int32} {H : Heap} {locs : List Loc} {ls : Array Slot} (h : f_R_sayReckoning_56 post σ x1 x3 s0) (hw : CX D vcl (tyl cA) (wR cA a σ) X A s H locs) (hl : lv_has ls 4 [(0, .ref (a 0)), (1, .int x1), (3, .int x3)]) : W p l e r_R_sayReckoning s m args below meth c H locs 0 0 Q (F0 m 56 ls [.int s0, .ref (a 0)]) := by
  have hx := fx.1
  have hb := fx.2.1
  unfold f_R_sayReckoning_56 at h
  refine cxU (pc := 56) hX fx hw (c_R_say hX h) cw_R_415 (rcR_0 hw) rfl ⟨Nat.le_of_ble_eq_true rfl, Nat.le_of_ble_eq_true rfl⟩ hl.1 (Nat.le_of_ble_eq_true rfl) d_R_sayReckoning_56 ⟨Nat.zero_le _, Nat.zero_le _⟩ (fun σ_19 H locs hw h => ?_)
  exact c_R_sayReckoning_59 hX fx HR h hw (lv_sub hl [0, 1, 2] rfl)
set_option maxHeartbeats 4000000 in
set_option maxRecDepth 100000 in
theorem e_R_sayReckoning (hX : XT X) (fx : CallFix p m c b_R_sayReckoning 4 s args GW RNR) {post : SS → Prop} (HR : RetV p l e r_R_sayReckoning s m args below meth c Q D vcl (tyl cA) (wR cA a) X A b_R_sayReckoning post) {σ : SS} {x1 : Int32} {H : Heap} {locs : List Loc} {ls : Array Slot} (h : f_R_sayReckoning post σ x1) (hw : CX D vcl (tyl cA) (wR cA a σ) X A s H locs) (hl : lv_has ls 4 [(0, .ref (a 0)), (1, .int x1)]) : W p l e r_R_sayReckoning s m args below meth c H locs 0 0 Q (F0 m 0 ls []) := by
  have hx := fx.1
  have hb := fx.2.1
  unfold f_R_sayReckoning at h
  refine lv_aload_n (pc := 0) hx hb d_R_sayReckoning_0 rfl (lv_at hl 0 rfl) ?_
  refine lv_iload_n (pc := 1) hx hb d_R_sayReckoning_1 rfl (lv_at hl 1 rfl) ?_
  refine lv_sipush (pc := 2) (v := 256) hx hb d_R_sayReckoning_2 (by decide) ?_
  refine lv_idiv (pc := 5) hx hb d_R_sayReckoning_5 (by decide) ?_
  refine lv_bipush (pc := 6) (v := 8) hx hb d_R_sayReckoning_6 (by decide) ?_
  refine lv_irem (pc := 8) hx hb d_R_sayReckoning_8 (by decide) ?_
  refine cxSJ (pc := 9) hX fx hw (c_R_functionName hX h) cw_R_421 rfl ⟨Nat.le_of_ble_eq_true rfl, Nat.le_of_ble_eq_true rfl⟩ hl.1 (Nat.le_of_ble_eq_true rfl) d_R_sayReckoning_9 ⟨Nat.zero_le _, Nat.zero_le _⟩ (fun r_22 σ_21 H locs hw h => ?_)
  refine cxU (pc := 12) hX fx hw (c_R_sayName hX h) cw_R_425 (rcR_0 hw) rfl ⟨Nat.le_of_ble_eq_true rfl, Nat.le_of_ble_eq_true rfl⟩ hl.1 (Nat.le_of_ble_eq_true rfl) d_R_sayReckoning_12 ⟨Nat.zero_le _, Nat.zero_le _⟩ (fun σ_23 H locs hw h => ?_)
  refine lv_iload_n (pc := 15) hx hb d_R_sayReckoning_15 rfl (lv_at hl 1 rfl) ?_
  refine lv_bipush (pc := 16) (v := 16) hx hb d_R_sayReckoning_16 (by decide) ?_
  refine lv_idiv (pc := 18) hx hb d_R_sayReckoning_18 (by decide) ?_
  refine lv_iconst (pc := 19) (v := 4) hx hb d_R_sayReckoning_19 (by decide) ?_
  refine lv_irem (pc := 20) hx hb d_R_sayReckoning_20 (by decide) ?_
  refine lv_topi (fun x2_25 e9 => ?_)
  replace h := nm_u h e9
  clear e9
  refine lv_istore_n (pc := 21) (lv' := [(2, .int x2_25), (0, .ref (a 0)), (1, .int x1)]) hx hb d_R_sayReckoning_21 rfl hl (by decide) rfl (fun ls hl => ?_)
  refine lv_iload_n (pc := 22) hx hb d_R_sayReckoning_22 rfl (lv_at hl 2 rfl) ?_
  refine lv_bipush (pc := 23) (v := 64) hx hb d_R_sayReckoning_23 (by decide) ?_
  refine lv_idiv (pc := 25) hx hb d_R_sayReckoning_25 (by decide) ?_
  refine lv_iconst (pc := 26) (v := 4) hx hb d_R_sayReckoning_26 (by decide) ?_
  refine lv_irem (pc := 27) hx hb d_R_sayReckoning_27 (by decide) ?_
  refine lv_topi (fun x3_26 e9 => ?_)
  replace h := nm_u h e9
  clear e9
  refine lv_istore_n (pc := 28) (lv' := [(3, .int x3_26), (2, .int x2_25), (0, .ref (a 0)), (1, .int x1)]) hx hb d_R_sayReckoning_28 rfl hl (by decide) rfl (fun ls hl => ?_)
  refine lv_iload_n (pc := 29) hx hb d_R_sayReckoning_29 rfl (lv_at hl 1 rfl) ?_
  refine lv_if_le (pc := 30) (tgt := 59) hx hb d_R_sayReckoning_30 (by decide) (fun c9 => ?_) (fun c9 => ?_)
  · replace h := h.1 c9
    exact c_R_sayReckoning_59 hX fx HR h hw (lv_sub hl [2, 3, 0] rfl)
  · replace h := h.2 c9
    refine lv_aload_n (pc := 33) hx hb d_R_sayReckoning_33 rfl (lv_at hl 2 rfl) ?_
    refine lv_iload_n (pc := 34) hx hb d_R_sayReckoning_34 rfl (lv_at hl 1 rfl) ?_
    refine lv_iconst (pc := 35) (v := 1) hx hb d_R_sayReckoning_35 (by decide) ?_
    refine lv_icmp_ne (pc := 36) (tgt := 44) hx hb d_R_sayReckoning_36 (by decide) (fun c9 => ?_) (fun c9 => ?_)
    · replace h := h.2 c9
      refine lv_iload_n (pc := 44) hx hb d_R_sayReckoning_44 rfl (lv_at hl 1 rfl) ?_
      refine lv_iconst (pc := 45) (v := 2) hx hb d_R_sayReckoning_45 (by decide) ?_
      refine lv_icmp_ne (pc := 46) (tgt := 54) hx hb d_R_sayReckoning_46 (by decide) (fun c9 => ?_) (fun c9 => ?_)
      · replace h := h.2 c9
        refine lv_bipush (pc := 54) (v := 67) hx hb d_R_sayReckoning_54 (by decide) ?_
        exact c_R_sayReckoning_56 hX fx HR h hw (lv_sub hl [2, 3, 0] rfl)
      · replace h := h.1 c9
        refine lv_bipush (pc := 49) (v := 79) hx hb d_R_sayReckoning_49 (by decide) ?_
        refine lv_goto (pc := 51) (tgt := 56) hx hb d_R_sayReckoning_51 (by decide) ?_
        exact c_R_sayReckoning_56 hX fx HR h hw (lv_sub hl [2, 3, 0] rfl)
    · replace h := h.1 c9
      refine lv_bipush (pc := 39) (v := 90) hx hb d_R_sayReckoning_39 (by decide) ?_
      refine lv_goto (pc := 41) (tgt := 56) hx hb d_R_sayReckoning_41 (by decide) ?_
      exact c_R_sayReckoning_56 hX fx HR h hw (lv_sub hl [2, 3, 0] rfl)
end
theorem c_R_sayReckoning {l : Launch} {D : va_G} {cA : Nat → ClassId} {a : Nat → Nat} {X : (Nat → Prop) → State → Prop} (hX : XT X) {σ : SS} {post : SS → Prop} {x1 : Int32} (h : f_R_sayReckoning post σ x1) : mV l y_R_sayReckoning b_R_sayReckoning 4 none 3 69 D vcl (tyl cA) (wR cA a) X σ [.ref (a 0), .int x1] post := met_V (by decide) (Nat.le_of_ble_eq_true rfl) (fun p e s m args below meth c A Q fx HR H ls hw hl => e_R_sayReckoning hX fx HR h hw hl)
abbrev r_R_sayMachine : Room := { frames := 3, cells := 0, slots := 0, locals := 69 }
def f_R_sayMachine_99 (post : Int32 → SS → Prop) (σ : SS) (s0 : Int64) : Prop := f_R_sayName (fun σ_1 => post 1 σ_1) σ s0
def f_R_sayMachine_77 (post : Int32 → SS → Prop) (σ : SS) (x2 : Int32) (x4 : Int32) : Prop := br (x4 ≤ 0) (br (x2 = 5) (f_R_sayMachine_99 post σ 314863407956) (f_R_sayMachine_99 post σ 1212238932)) (post 0 σ)
def f_R_sayMachine_137 (post : Int32 → SS → Prop) (σ : SS) (x4 : Int32) (s0 : Int64) : Prop := f_R_sayName (fun σ_3 => f_R_say (fun σ_5 => f_R_octal (fun σ_7 => post 1 σ_7) σ_5 x4) σ_3 32) σ s0
def f_R_sayMachine_55 (post : Int32 → SS → Prop) (σ : SS) (s0 : Int64) : Prop := f_R_sayName (fun σ_9 => post 1 σ_9) σ s0
def f_R_sayMachine (post : Int32 → SS → Prop) (σ : SS) (x1 : Int32) : Prop := nm ((x1 / 256) - (x1 / 256) / 8 * 8) fun x2_11 => nm ((x1 / 64) - (x1 / 64) / 4 * 4) fun x3_12 => nm ((x1 / 2048) - (x1 / 2048) / 4 * 4) fun x4_13 => br (x2_11 = 0) (br (x3_12 = 0) (post 0 σ) (br (x3_12 = 3) (post 0 σ) (br (x3_12 = 1) (f_R_sayMachine_55 post σ 314846758222) (f_R_sayMachine_55 post σ 314846757971)))) (br (x3_12 ≤ 0) (br (x2_11 = 5) (f_R_sayMachine_77 post σ x2_11 x4_13) (br (x2_11 = 6) (f_R_sayMachine_77 post σ x2_11 x4_13) (br (x2_11 = 2) (post 0 σ) (br (x2_11 = 1) (f_R_sayMachine_137 post σ x4_13 353349223507) (br (x2_11 = 3) (f_R_sayMachine_137 post σ x4_13 1229870145) (f_R_sayMachine_137 post σ x4_13 1297304399)))))) (post 0 σ))
section
variable {p : Program} {l : Launch} {e : Env} {s : State} {m : MethodId} {args : Array Value} {below : List Frame} {meth : Method} {c : Code} {Q : State → Prop} {D : va_G} {cA : Nat → ClassId} {a : Nat → Nat} {X : (Nat → Prop) → State → Prop} {A : Nat → Prop}
set_option maxHeartbeats 4000000 in
set_option maxRecDepth 100000 in
theorem c_R_sayMachine_99 (hX : XT X) (fx : CallFix p m c b_R_sayMachine 5 s args GW RNR) {post : Int32 → SS → Prop} (HR : RetI p l e r_R_sayMachine s m args below meth c Q D vcl (tyl cA) (wR cA a) X A b_R_sayMachine .boolean (fun r σ => bz r ∧ post r σ)) {σ : SS} {s0 : Int64} {H : Heap} {locs : List Loc} {ls : Array Slot} (h : f_R_sayMachine_99 post σ s0) (hw : CX D vcl (tyl cA) (wR cA a σ) X A s H locs) (hl : lv_has ls 5 []) : W p l e r_R_sayMachine s m args below meth c H locs 0 0 Q (F0 m 99 ls [.long s0, .ref (a 0)]) := by
  have hx := fx.1
  have hb := fx.2.1
  unfold f_R_sayMachine_99 at h
  refine cxU (pc := 99) hX fx hw (c_R_sayName hX h) cw_R_425 (rcR_0 hw) rfl ⟨Nat.le_of_ble_eq_true rfl, Nat.le_of_ble_eq_true rfl⟩ hl.1 (Nat.le_of_ble_eq_true rfl) d_R_sayMachine_99 ⟨Nat.zero_le _, Nat.zero_le _⟩ (fun σ_1 H locs hw h => ?_)
  refine lv_iconst (pc := 102) (v := 1) hx hb d_R_sayMachine_102 (by decide) ?_
  exact HR (bz_n bz_1) d_R_sayMachine_103 ⟨bz_1, h⟩ hw
set_option maxHeartbeats 4000000 in
set_option maxRecDepth 100000 in
theorem c_R_sayMachine_77 (hX : XT X) (fx : CallFix p m c b_R_sayMachine 5 s args GW RNR) {post : Int32 → SS → Prop} (HR : RetI p l e r_R_sayMachine s m args below meth c Q D vcl (tyl cA) (wR cA a) X A b_R_sayMachine .boolean (fun r σ => bz r ∧ post r σ)) {σ : SS} {x2 : Int32} {x4 : Int32} {H : Heap} {locs : List Loc} {ls : Array Slot} (h : f_R_sayMachine_77 post σ x2 x4) (hw : CX D vcl (tyl cA) (wR cA a σ) X A s H locs) (hl : lv_has ls 5 [(0, .ref (a 0)), (2, .int x2), (4, .int x4)]) : W p l e r_R_sayMachine s m args below meth c H locs 0 0 Q (F0 m 77 ls []) := by
  have hx := fx.1
  have hb := fx.2.1
  unfold f_R_sayMachine_77 at h
  refine lv_iload (pc := 77) hx hb d_R_sayMachine_77 (lv_at hl 2 rfl) ?_
  refine lv_if_le (pc := 79) (tgt := 84) hx hb d_R_sayMachine_79 (by decide) (fun c9 => ?_) (fun c9 => ?_)
  · replace h := h.1 c9
    refine lv_aload_n (pc := 84) hx hb d_R_sayMachine_84 rfl (lv_at hl 0 rfl) ?_
    refine lv_iload_n (pc := 85) hx hb d_R_sayMachine_85 rfl (lv_at hl 1 rfl) ?_
    refine lv_iconst (pc := 86) (v := 5) hx hb d_R_sayMachine_86 (by decide) ?_
    refine lv_icmp_ne (pc := 87) (tgt := 96) hx hb d_R_sayMachine_87 (by decide) (fun c9 => ?_) (fun c9 => ?_)
    · replace h := h.2 c9
      refine lv_ldc2 (pc := 96) (v := 1212238932) hx hb fx.2.2.2.1 (fx.2.2.2.2 _ kw_1424) d_R_sayMachine_96 ?_
      exact c_R_sayMachine_99 hX fx HR h hw (lv_sub hl [] rfl)
    · replace h := h.1 c9
      refine lv_ldc2 (pc := 90) (v := 314863407956) hx hb fx.2.2.2.1 (fx.2.2.2.2 _ kw_1418) d_R_sayMachine_90 ?_
      refine lv_goto (pc := 93) (tgt := 99) hx hb d_R_sayMachine_93 (by decide) ?_
      exact c_R_sayMachine_99 hX fx HR h hw (lv_sub hl [] rfl)
  · replace h := h.2 c9
    refine lv_iconst (pc := 82) (v := 0) hx hb d_R_sayMachine_82 (by decide) ?_
    exact HR (bz_n bz_0) d_R_sayMachine_83 ⟨bz_0, h⟩ hw
set_option maxHeartbeats 4000000 in
set_option maxRecDepth 100000 in
theorem c_R_sayMachine_137 (hX : XT X) (fx : CallFix p m c b_R_sayMachine 5 s args GW RNR) {post : Int32 → SS → Prop} (HR : RetI p l e r_R_sayMachine s m args below meth c Q D vcl (tyl cA) (wR cA a) X A b_R_sayMachine .boolean (fun r σ => bz r ∧ post r σ)) {σ : SS} {x4 : Int32} {s0 : Int64} {H : Heap} {locs : List Loc} {ls : Array Slot} (h : f_R_sayMachine_137 post σ x4 s0) (hw : CX D vcl (tyl cA) (wR cA a σ) X A s H locs) (hl : lv_has ls 5 [(0, .ref (a 0)), (4, .int x4)]) : W p l e r_R_sayMachine s m args below meth c H locs 0 0 Q (F0 m 137 ls [.long s0, .ref (a 0)]) := by
  have hx := fx.1
  have hb := fx.2.1
  unfold f_R_sayMachine_137 at h
  refine cxU (pc := 137) hX fx hw (c_R_sayName hX h) cw_R_425 (rcR_0 hw) rfl ⟨Nat.le_of_ble_eq_true rfl, Nat.le_of_ble_eq_true rfl⟩ hl.1 (Nat.le_of_ble_eq_true rfl) d_R_sayMachine_137 ⟨Nat.zero_le _, Nat.zero_le _⟩ (fun σ_3 H locs hw h => ?_)
  refine lv_aload_n (pc := 140) hx hb d_R_sayMachine_140 rfl (lv_at hl 0 rfl) ?_
  refine lv_bipush (pc := 141) (v := 32) hx hb d_R_sayMachine_141 (by decide) ?_
  refine cxU (pc := 143) hX fx hw (c_R_say hX h) cw_R_415 (rcR_0 hw) rfl ⟨Nat.le_of_ble_eq_true rfl, Nat.le_of_ble_eq_true rfl⟩ hl.1 (Nat.le_of_ble_eq_true rfl) d_R_sayMachine_143 ⟨Nat.zero_le _, Nat.zero_le _⟩ (fun σ_5 H locs hw h => ?_)
  refine lv_aload_n (pc := 146) hx hb d_R_sayMachine_146 rfl (lv_at hl 0 rfl) ?_
  refine lv_iload (pc := 147) hx hb d_R_sayMachine_147 (lv_at hl 1 rfl) ?_
  refine cxU (pc := 149) hX fx hw (c_R_octal hX h) cw_R_418 (rcR_0 hw) rfl ⟨Nat.le_of_ble_eq_true rfl, Nat.le_of_ble_eq_true rfl⟩ hl.1 (Nat.le_of_ble_eq_true rfl) d_R_sayMachine_149 ⟨Nat.zero_le _, Nat.zero_le _⟩ (fun σ_7 H locs hw h => ?_)
  refine lv_iconst (pc := 152) (v := 1) hx hb d_R_sayMachine_152 (by decide) ?_
  exact HR (bz_n bz_1) d_R_sayMachine_153 ⟨bz_1, h⟩ hw
set_option maxHeartbeats 4000000 in
set_option maxRecDepth 100000 in
theorem c_R_sayMachine_55 (hX : XT X) (fx : CallFix p m c b_R_sayMachine 5 s args GW RNR) {post : Int32 → SS → Prop} (HR : RetI p l e r_R_sayMachine s m args below meth c Q D vcl (tyl cA) (wR cA a) X A b_R_sayMachine .boolean (fun r σ => bz r ∧ post r σ)) {σ : SS} {s0 : Int64} {H : Heap} {locs : List Loc} {ls : Array Slot} (h : f_R_sayMachine_55 post σ s0) (hw : CX D vcl (tyl cA) (wR cA a σ) X A s H locs) (hl : lv_has ls 5 []) : W p l e r_R_sayMachine s m args below meth c H locs 0 0 Q (F0 m 55 ls [.long s0, .ref (a 0)]) := by
  have hx := fx.1
  have hb := fx.2.1
  unfold f_R_sayMachine_55 at h
  refine cxU (pc := 55) hX fx hw (c_R_sayName hX h) cw_R_425 (rcR_0 hw) rfl ⟨Nat.le_of_ble_eq_true rfl, Nat.le_of_ble_eq_true rfl⟩ hl.1 (Nat.le_of_ble_eq_true rfl) d_R_sayMachine_55 ⟨Nat.zero_le _, Nat.zero_le _⟩ (fun σ_9 H locs hw h => ?_)
  refine lv_iconst (pc := 58) (v := 1) hx hb d_R_sayMachine_58 (by decide) ?_
  exact HR (bz_n bz_1) d_R_sayMachine_59 ⟨bz_1, h⟩ hw
set_option maxHeartbeats 4000000 in
set_option maxRecDepth 100000 in
theorem e_R_sayMachine (hX : XT X) (fx : CallFix p m c b_R_sayMachine 5 s args GW RNR) {post : Int32 → SS → Prop} (HR : RetI p l e r_R_sayMachine s m args below meth c Q D vcl (tyl cA) (wR cA a) X A b_R_sayMachine .boolean (fun r σ => bz r ∧ post r σ)) {σ : SS} {x1 : Int32} {H : Heap} {locs : List Loc} {ls : Array Slot} (h : f_R_sayMachine post σ x1) (hw : CX D vcl (tyl cA) (wR cA a σ) X A s H locs) (hl : lv_has ls 5 [(0, .ref (a 0)), (1, .int x1)]) : W p l e r_R_sayMachine s m args below meth c H locs 0 0 Q (F0 m 0 ls []) := by
  have hx := fx.1
  have hb := fx.2.1
  unfold f_R_sayMachine at h
  refine lv_iload_n (pc := 0) hx hb d_R_sayMachine_0 rfl (lv_at hl 1 rfl) ?_
  refine lv_sipush (pc := 1) (v := 256) hx hb d_R_sayMachine_1 (by decide) ?_
  refine lv_idiv (pc := 4) hx hb d_R_sayMachine_4 (by decide) ?_
  refine lv_bipush (pc := 5) (v := 8) hx hb d_R_sayMachine_5 (by decide) ?_
  refine lv_irem (pc := 7) hx hb d_R_sayMachine_7 (by decide) ?_
  refine lv_topi (fun x2_11 e9 => ?_)
  replace h := nm_u h e9
  clear e9
  refine lv_istore_n (pc := 8) (lv' := [(2, .int x2_11), (0, .ref (a 0)), (1, .int x1)]) hx hb d_R_sayMachine_8 rfl hl (by decide) rfl (fun ls hl => ?_)
  refine lv_iload_n (pc := 9) hx hb d_R_sayMachine_9 rfl (lv_at hl 2 rfl) ?_
  refine lv_bipush (pc := 10) (v := 64) hx hb d_R_sayMachine_10 (by decide) ?_
  refine lv_idiv (pc := 12) hx hb d_R_sayMachine_12 (by decide) ?_
  refine lv_iconst (pc := 13) (v := 4) hx hb d_R_sayMachine_13 (by decide) ?_
  refine lv_irem (pc := 14) hx hb d_R_sayMachine_14 (by decide) ?_
  refine lv_topi (fun x3_12 e9 => ?_)
  replace h := nm_u h e9
  clear e9
  refine lv_istore_n (pc := 15) (lv' := [(3, .int x3_12), (2, .int x2_11), (0, .ref (a 0)), (1, .int x1)]) hx hb d_R_sayMachine_15 rfl hl (by decide) rfl (fun ls hl => ?_)
  refine lv_iload_n (pc := 16) hx hb d_R_sayMachine_16 rfl (lv_at hl 3 rfl) ?_
  refine lv_sipush (pc := 17) (v := 2048) hx hb d_R_sayMachine_17 (by decide) ?_
  refine lv_idiv (pc := 20) hx hb d_R_sayMachine_20 (by decide) ?_
  refine lv_iconst (pc := 21) (v := 4) hx hb d_R_sayMachine_21 (by decide) ?_
  refine lv_irem (pc := 22) hx hb d_R_sayMachine_22 (by decide) ?_
  refine lv_topi (fun x4_13 e9 => ?_)
  replace h := nm_u h e9
  clear e9
  refine lv_istore (pc := 23) (lv' := [(4, .int x4_13), (3, .int x3_12), (2, .int x2_11), (0, .ref (a 0)), (1, .int x1)]) hx hb d_R_sayMachine_23 hl (by decide) rfl (fun ls hl => ?_)
  refine lv_iload_n (pc := 25) hx hb d_R_sayMachine_25 rfl (lv_at hl 2 rfl) ?_
  refine lv_if_ne (pc := 26) (tgt := 60) hx hb d_R_sayMachine_26 (by decide) (fun c9 => ?_) (fun c9 => ?_)
  · replace h := h.2 c9
    refine lv_iload_n (pc := 60) hx hb d_R_sayMachine_60 rfl (lv_at hl 1 rfl) ?_
    refine lv_if_le (pc := 61) (tgt := 66) hx hb d_R_sayMachine_61 (by decide) (fun c9 => ?_) (fun c9 => ?_)
    · replace h := h.1 c9
      refine lv_iload_n (pc := 66) hx hb d_R_sayMachine_66 rfl (lv_at hl 2 rfl) ?_
      refine lv_iconst (pc := 67) (v := 5) hx hb d_R_sayMachine_67 (by decide) ?_
      refine lv_icmp_eq (pc := 68) (tgt := 77) hx hb d_R_sayMachine_68 (by decide) (fun c9 => ?_) (fun c9 => ?_)
      · replace h := h.1 c9
        exact c_R_sayMachine_77 hX fx HR h hw (lv_sub hl [3, 2, 0] rfl)
      · replace h := h.2 c9
        refine lv_iload_n (pc := 71) hx hb d_R_sayMachine_71 rfl (lv_at hl 2 rfl) ?_
        refine lv_bipush (pc := 72) (v := 6) hx hb d_R_sayMachine_72 (by decide) ?_
        refine lv_icmp_ne (pc := 74) (tgt := 104) hx hb d_R_sayMachine_74 (by decide) (fun c9 => ?_) (fun c9 => ?_)
        · replace h := h.2 c9
          refine lv_iload_n (pc := 104) hx hb d_R_sayMachine_104 rfl (lv_at hl 2 rfl) ?_
          refine lv_iconst (pc := 105) (v := 2) hx hb d_R_sayMachine_105 (by decide) ?_
          refine lv_icmp_ne (pc := 106) (tgt := 111) hx hb d_R_sayMachine_106 (by decide) (fun c9 => ?_) (fun c9 => ?_)
          · replace h := h.2 c9
            refine lv_aload_n (pc := 111) hx hb d_R_sayMachine_111 rfl (lv_at hl 3 rfl) ?_
            refine lv_iload_n (pc := 112) hx hb d_R_sayMachine_112 rfl (lv_at hl 2 rfl) ?_
            refine lv_iconst (pc := 113) (v := 1) hx hb d_R_sayMachine_113 (by decide) ?_
            refine lv_icmp_ne (pc := 114) (tgt := 123) hx hb d_R_sayMachine_114 (by decide) (fun c9 => ?_) (fun c9 => ?_)
            · replace h := h.2 c9
              refine lv_iload_n (pc := 123) hx hb d_R_sayMachine_123 rfl (lv_at hl 2 rfl) ?_
              refine lv_iconst (pc := 124) (v := 3) hx hb d_R_sayMachine_124 (by decide) ?_
              refine lv_icmp_ne (pc := 125) (tgt := 134) hx hb d_R_sayMachine_125 (by decide) (fun c9 => ?_) (fun c9 => ?_)
              · replace h := h.2 c9
                refine lv_ldc2 (pc := 134) (v := 1297304399) hx hb fx.2.2.2.1 (fx.2.2.2.2 _ kw_1426) d_R_sayMachine_134 ?_
                exact c_R_sayMachine_137 hX fx HR h hw (lv_sub hl [3, 0] rfl)
              · replace h := h.1 c9
                refine lv_ldc2 (pc := 128) (v := 1229870145) hx hb fx.2.2.2.1 (fx.2.2.2.2 _ kw_1425) d_R_sayMachine_128 ?_
                refine lv_goto (pc := 131) (tgt := 137) hx hb d_R_sayMachine_131 (by decide) ?_
                exact c_R_sayMachine_137 hX fx HR h hw (lv_sub hl [3, 0] rfl)
            · replace h := h.1 c9
              refine lv_ldc2 (pc := 117) (v := 353349223507) hx hb fx.2.2.2.1 (fx.2.2.2.2 _ kw_1419) d_R_sayMachine_117 ?_
              refine lv_goto (pc := 120) (tgt := 137) hx hb d_R_sayMachine_120 (by decide) ?_
              exact c_R_sayMachine_137 hX fx HR h hw (lv_sub hl [3, 0] rfl)
          · replace h := h.1 c9
            refine lv_iconst (pc := 109) (v := 0) hx hb d_R_sayMachine_109 (by decide) ?_
            exact HR (bz_n bz_0) d_R_sayMachine_110 ⟨bz_0, h⟩ hw
        · replace h := h.1 c9
          exact c_R_sayMachine_77 hX fx HR h hw (lv_sub hl [3, 2, 0] rfl)
    · replace h := h.2 c9
      refine lv_iconst (pc := 64) (v := 0) hx hb d_R_sayMachine_64 (by decide) ?_
      exact HR (bz_n bz_0) d_R_sayMachine_65 ⟨bz_0, h⟩ hw
  · replace h := h.1 c9
    refine lv_iload_n (pc := 29) hx hb d_R_sayMachine_29 rfl (lv_at hl 1 rfl) ?_
    refine lv_if_eq (pc := 30) (tgt := 38) hx hb d_R_sayMachine_30 (by decide) (fun c9 => ?_) (fun c9 => ?_)
    · replace h := h.1 c9
      refine lv_iconst (pc := 38) (v := 0) hx hb d_R_sayMachine_38 (by decide) ?_
      exact HR (bz_n bz_0) d_R_sayMachine_39 ⟨bz_0, h⟩ hw
    · replace h := h.2 c9
      refine lv_iload_n (pc := 33) hx hb d_R_sayMachine_33 rfl (lv_at hl 1 rfl) ?_
      refine lv_iconst (pc := 34) (v := 3) hx hb d_R_sayMachine_34 (by decide) ?_
      refine lv_icmp_ne (pc := 35) (tgt := 40) hx hb d_R_sayMachine_35 (by decide) (fun c9 => ?_) (fun c9 => ?_)
      · replace h := h.2 c9
        refine lv_aload_n (pc := 40) hx hb d_R_sayMachine_40 rfl (lv_at hl 3 rfl) ?_
        refine lv_iload_n (pc := 41) hx hb d_R_sayMachine_41 rfl (lv_at hl 1 rfl) ?_
        refine lv_iconst (pc := 42) (v := 1) hx hb d_R_sayMachine_42 (by decide) ?_
        refine lv_icmp_ne (pc := 43) (tgt := 52) hx hb d_R_sayMachine_43 (by decide) (fun c9 => ?_) (fun c9 => ?_)
        · replace h := h.2 c9
          refine lv_ldc2 (pc := 52) (v := 314846757971) hx hb fx.2.2.2.1 (fx.2.2.2.2 _ kw_1417) d_R_sayMachine_52 ?_
          exact c_R_sayMachine_55 hX fx HR h hw (lv_sub hl [] rfl)
        · replace h := h.1 c9
          refine lv_ldc2 (pc := 46) (v := 314846758222) hx hb fx.2.2.2.1 (fx.2.2.2.2 _ kw_1412) d_R_sayMachine_46 ?_
          refine lv_goto (pc := 49) (tgt := 55) hx hb d_R_sayMachine_49 (by decide) ?_
          exact c_R_sayMachine_55 hX fx HR h hw (lv_sub hl [] rfl)
      · replace h := h.1 c9
        refine lv_iconst (pc := 38) (v := 0) hx hb d_R_sayMachine_38 (by decide) ?_
        exact HR (bz_n bz_0) d_R_sayMachine_39 ⟨bz_0, h⟩ hw
end
theorem c_R_sayMachine {l : Launch} {D : va_G} {cA : Nat → ClassId} {a : Nat → Nat} {X : (Nat → Prop) → State → Prop} (hX : XT X) {σ : SS} {post : Int32 → SS → Prop} {x1 : Int32} (h : f_R_sayMachine post σ x1) : mI l y_R_sayMachine b_R_sayMachine 5 (some .boolean) 3 69 D vcl (tyl cA) (wR cA a) X σ [.ref (a 0), .int x1] (fun r σ => bz r ∧ post r σ) := met_I (by decide) (Nat.le_of_ble_eq_true rfl) (fun p e s m args below meth c A Q fx HR H ls hw hl => e_R_sayMachine hX fx HR h hw hl)
abbrev r_R_sayDevice : Room := { frames := 4, cells := 0, slots := 0, locals := 93 }
def f_R_sayDevice_227 (post : SS → Prop) (σ : SS) (x1 : Int32) : Prop := f_R_octal (fun σ_1 => post σ_1) σ (x1 - x1 / 64 * 64)
def f_R_sayDevice_205 (post : SS → Prop) (σ : SS) (x1 : Int32) (x2 : Int32) (x4 : Int32) : Prop := f_R_say (fun σ_3 => br (x2 ≤ 0) (f_R_sayDevice_227 post σ_3 x1) (f_R_octal (fun σ_5 => f_R_say (fun σ_7 => f_R_sayDevice_227 post σ_7 x1) σ_5 44) σ_3 x4)) σ 32
def f_R_sayDevice_202 (post : SS → Prop) (σ : SS) (x1 : Int32) (x2 : Int32) (x4 : Int32) (s0 : Int32) : Prop := f_R_say (fun σ_9 => f_R_sayDevice_205 post σ_9 x1 x2 x4) σ s0
def f_R_sayDevice_172 (post : SS → Prop) (σ : SS) (x1 : Int32) (x2 : Int32) (x3 : Int32) (x4 : Int32) (s0 : Int32) : Prop := f_R_say (fun σ_11 => br (x3 ≤ 0) (f_R_sayDevice_205 post σ_11 x1 x2 x4) (br (x3 = 1) (f_R_sayDevice_202 post σ_11 x1 x2 x4 83) (br (x3 = 2) (f_R_sayDevice_202 post σ_11 x1 x2 x4 67) (f_R_sayDevice_202 post σ_11 x1 x2 x4 80)))) σ s0
def f_R_sayDevice_137 (post : SS → Prop) (σ : SS) (x1 : Int32) (x2 : Int32) (x3 : Int32) (x4 : Int32) (s0 : Int32) : Prop := f_R_say (fun σ_13 => br (x2 = 0) (f_R_sayDevice_172 post σ_13 x1 x2 x3 x4 79) (br (3 ≤ x2) (br (5 ≤ x2) (f_R_sayDevice_172 post σ_13 x1 x2 x3 x4 67) (f_R_sayDevice_172 post σ_13 x1 x2 x3 x4 66)) (f_R_sayDevice_172 post σ_13 x1 x2 x3 x4 65))) σ s0
def f_R_sayDevice_115 (post : SS → Prop) (σ : SS) (x1 : Int32) (x2 : Int32) (x3 : Int32) (x4 : Int32) (s0 : Int32) : Prop := f_R_say (fun σ_15 => br ((x2 - x2 / 2 * 2) = 1) (f_R_sayDevice_137 post σ_15 x1 x2 x3 x4 73) (br (x2 = 0) (f_R_sayDevice_137 post σ_15 x1 x2 x3 x4 73) (f_R_sayDevice_137 post σ_15 x1 x2 x3 x4 79))) σ s0
def f_R_sayDevice_103 (post : SS → Prop) (σ : SS) (x1 : Int32) (x2 : Int32) (x3 : Int32) (x4 : Int32) : Prop := br (x2 = 0) (f_R_sayDevice_115 post σ x1 x2 x3 x4 78) (f_R_sayDevice_115 post σ x1 x2 x3 x4 68)
def f_R_sayDevice_67 (post : SS → Prop) (σ : SS) (x1 : Int32) (s0 : Int64) : Prop := f_R_sayName (fun σ_17 => f_R_say (fun σ_19 => f_R_octal (fun σ_21 => post σ_21) σ_19 (x1 - x1 / 64 * 64)) σ_17 32) σ s0
def f_R_sayDevice (post : SS → Prop) (σ : SS) (x1 : Int32) : Prop := nm ((x1 / 256) - (x1 / 256) / 8 * 8) fun x2_23 => nm ((x1 / 64) - (x1 / 64) / 4 * 4) fun x3_24 => nm ((x1 / 2048) - (x1 / 2048) / 4 * 4) fun x4_25 => br (x2_23 = 7) (br (x3_24 = 0) (f_R_sayDevice_67 post σ x1 357745836622) (br (x3_24 = 1) (f_R_sayDevice_67 post σ x1 357745836634) (br (x3_24 = 2) (f_R_sayDevice_67 post σ x1 357745837134) (f_R_sayDevice_67 post σ x1 357745837146)))) (br ((x1 - x1 / 64 * 64) = 63) (f_R_sayMachine (fun r_27 σ_26 => br (r_27 = 0) (f_R_sayDevice_103 post σ_26 x1 x2_23 x3_24 x4_25) (post σ_26)) σ x1) (f_R_sayDevice_103 post σ x1 x2_23 x3_24 x4_25))
section
variable {p : Program} {l : Launch} {e : Env} {s : State} {m : MethodId} {args : Array Value} {below : List Frame} {meth : Method} {c : Code} {Q : State → Prop} {D : va_G} {cA : Nat → ClassId} {a : Nat → Nat} {X : (Nat → Prop) → State → Prop} {A : Nat → Prop}
set_option maxHeartbeats 4000000 in
set_option maxRecDepth 100000 in
theorem c_R_sayDevice_227 (hX : XT X) (fx : CallFix p m c b_R_sayDevice 5 s args GW RNR) {post : SS → Prop} (HR : RetV p l e r_R_sayDevice s m args below meth c Q D vcl (tyl cA) (wR cA a) X A b_R_sayDevice post) {σ : SS} {x1 : Int32} {H : Heap} {locs : List Loc} {ls : Array Slot} (h : f_R_sayDevice_227 post σ x1) (hw : CX D vcl (tyl cA) (wR cA a σ) X A s H locs) (hl : lv_has ls 5 [(0, .ref (a 0)), (1, .int x1)]) : W p l e r_R_sayDevice s m args below meth c H locs 0 0 Q (F0 m 227 ls []) := by
  have hx := fx.1
  have hb := fx.2.1
  unfold f_R_sayDevice_227 at h
  refine lv_aload_n (pc := 227) hx hb d_R_sayDevice_227 rfl (lv_at hl 0 rfl) ?_
  refine lv_iload_n (pc := 228) hx hb d_R_sayDevice_228 rfl (lv_at hl 1 rfl) ?_
  refine lv_bipush (pc := 229) (v := 64) hx hb d_R_sayDevice_229 (by decide) ?_
  refine lv_irem (pc := 231) hx hb d_R_sayDevice_231 (by decide) ?_
  refine cxU (pc := 232) hX fx hw (c_R_octal hX h) cw_R_418 (rcR_0 hw) rfl ⟨Nat.le_of_ble_eq_true rfl, Nat.le_of_ble_eq_true rfl⟩ hl.1 (Nat.le_of_ble_eq_true rfl) d_R_sayDevice_232 ⟨Nat.zero_le _, Nat.zero_le _⟩ (fun σ_1 H locs hw h => ?_)
  exact HR d_R_sayDevice_235 h hw
set_option maxHeartbeats 4000000 in
set_option maxRecDepth 100000 in
theorem c_R_sayDevice_205 (hX : XT X) (fx : CallFix p m c b_R_sayDevice 5 s args GW RNR) {post : SS → Prop} (HR : RetV p l e r_R_sayDevice s m args below meth c Q D vcl (tyl cA) (wR cA a) X A b_R_sayDevice post) {σ : SS} {x1 : Int32} {x2 : Int32} {x4 : Int32} {H : Heap} {locs : List Loc} {ls : Array Slot} (h : f_R_sayDevice_205 post σ x1 x2 x4) (hw : CX D vcl (tyl cA) (wR cA a σ) X A s H locs) (hl : lv_has ls 5 [(0, .ref (a 0)), (1, .int x1), (2, .int x2), (4, .int x4)]) : W p l e r_R_sayDevice s m args below meth c H locs 0 0 Q (F0 m 205 ls []) := by
  have hx := fx.1
  have hb := fx.2.1
  unfold f_R_sayDevice_205 at h
  refine lv_aload_n (pc := 205) hx hb d_R_sayDevice_205 rfl (lv_at hl 0 rfl) ?_
  refine lv_bipush (pc := 206) (v := 32) hx hb d_R_sayDevice_206 (by decide) ?_
  refine cxU (pc := 208) hX fx hw (c_R_say hX h) cw_R_415 (rcR_0 hw) rfl ⟨Nat.le_of_ble_eq_true rfl, Nat.le_of_ble_eq_true rfl⟩ hl.1 (Nat.le_of_ble_eq_true rfl) d_R_sayDevice_208 ⟨Nat.zero_le _, Nat.zero_le _⟩ (fun σ_3 H locs hw h => ?_)
  refine lv_iload_n (pc := 211) hx hb d_R_sayDevice_211 rfl (lv_at hl 2 rfl) ?_
  refine lv_if_le (pc := 212) (tgt := 227) hx hb d_R_sayDevice_212 (by decide) (fun c9 => ?_) (fun c9 => ?_)
  · replace h := h.1 c9
    exact c_R_sayDevice_227 hX fx HR h hw (lv_sub hl [0, 1] rfl)
  · replace h := h.2 c9
    refine lv_aload_n (pc := 215) hx hb d_R_sayDevice_215 rfl (lv_at hl 0 rfl) ?_
    refine lv_iload (pc := 216) hx hb d_R_sayDevice_216 (lv_at hl 3 rfl) ?_
    refine cxU (pc := 218) hX fx hw (c_R_octal hX h) cw_R_418 (rcR_0 hw) rfl ⟨Nat.le_of_ble_eq_true rfl, Nat.le_of_ble_eq_true rfl⟩ hl.1 (Nat.le_of_ble_eq_true rfl) d_R_sayDevice_218 ⟨Nat.zero_le _, Nat.zero_le _⟩ (fun σ_5 H locs hw h => ?_)
    refine lv_aload_n (pc := 221) hx hb d_R_sayDevice_221 rfl (lv_at hl 0 rfl) ?_
    refine lv_bipush (pc := 222) (v := 44) hx hb d_R_sayDevice_222 (by decide) ?_
    refine cxU (pc := 224) hX fx hw (c_R_say hX h) cw_R_415 (rcR_0 hw) rfl ⟨Nat.le_of_ble_eq_true rfl, Nat.le_of_ble_eq_true rfl⟩ hl.1 (Nat.le_of_ble_eq_true rfl) d_R_sayDevice_224 ⟨Nat.zero_le _, Nat.zero_le _⟩ (fun σ_7 H locs hw h => ?_)
    exact c_R_sayDevice_227 hX fx HR h hw (lv_sub hl [0, 1] rfl)
set_option maxHeartbeats 4000000 in
set_option maxRecDepth 100000 in
theorem c_R_sayDevice_202 (hX : XT X) (fx : CallFix p m c b_R_sayDevice 5 s args GW RNR) {post : SS → Prop} (HR : RetV p l e r_R_sayDevice s m args below meth c Q D vcl (tyl cA) (wR cA a) X A b_R_sayDevice post) {σ : SS} {x1 : Int32} {x2 : Int32} {x4 : Int32} {s0 : Int32} {H : Heap} {locs : List Loc} {ls : Array Slot} (h : f_R_sayDevice_202 post σ x1 x2 x4 s0) (hw : CX D vcl (tyl cA) (wR cA a σ) X A s H locs) (hl : lv_has ls 5 [(0, .ref (a 0)), (1, .int x1), (2, .int x2), (4, .int x4)]) : W p l e r_R_sayDevice s m args below meth c H locs 0 0 Q (F0 m 202 ls [.int s0, .ref (a 0)]) := by
  have hx := fx.1
  have hb := fx.2.1
  unfold f_R_sayDevice_202 at h
  refine cxU (pc := 202) hX fx hw (c_R_say hX h) cw_R_415 (rcR_0 hw) rfl ⟨Nat.le_of_ble_eq_true rfl, Nat.le_of_ble_eq_true rfl⟩ hl.1 (Nat.le_of_ble_eq_true rfl) d_R_sayDevice_202 ⟨Nat.zero_le _, Nat.zero_le _⟩ (fun σ_9 H locs hw h => ?_)
  exact c_R_sayDevice_205 hX fx HR h hw (lv_sub hl [0, 1, 2, 3] rfl)
set_option maxHeartbeats 4000000 in
set_option maxRecDepth 100000 in
theorem c_R_sayDevice_172 (hX : XT X) (fx : CallFix p m c b_R_sayDevice 5 s args GW RNR) {post : SS → Prop} (HR : RetV p l e r_R_sayDevice s m args below meth c Q D vcl (tyl cA) (wR cA a) X A b_R_sayDevice post) {σ : SS} {x1 : Int32} {x2 : Int32} {x3 : Int32} {x4 : Int32} {s0 : Int32} {H : Heap} {locs : List Loc} {ls : Array Slot} (h : f_R_sayDevice_172 post σ x1 x2 x3 x4 s0) (hw : CX D vcl (tyl cA) (wR cA a σ) X A s H locs) (hl : lv_has ls 5 [(0, .ref (a 0)), (1, .int x1), (2, .int x2), (3, .int x3), (4, .int x4)]) : W p l e r_R_sayDevice s m args below meth c H locs 0 0 Q (F0 m 172 ls [.int s0, .ref (a 0)]) := by
  have hx := fx.1
  have hb := fx.2.1
  unfold f_R_sayDevice_172 at h
  refine cxU (pc := 172) hX fx hw (c_R_say hX h) cw_R_415 (rcR_0 hw) rfl ⟨Nat.le_of_ble_eq_true rfl, Nat.le_of_ble_eq_true rfl⟩ hl.1 (Nat.le_of_ble_eq_true rfl) d_R_sayDevice_172 ⟨Nat.zero_le _, Nat.zero_le _⟩ (fun σ_11 H locs hw h => ?_)
  refine lv_iload_n (pc := 175) hx hb d_R_sayDevice_175 rfl (lv_at hl 3 rfl) ?_
  refine lv_if_le (pc := 176) (tgt := 205) hx hb d_R_sayDevice_176 (by decide) (fun c9 => ?_) (fun c9 => ?_)
  · replace h := h.1 c9
    exact c_R_sayDevice_205 hX fx HR h hw (lv_sub hl [0, 1, 2, 4] rfl)
  · replace h := h.2 c9
    refine lv_aload_n (pc := 179) hx hb d_R_sayDevice_179 rfl (lv_at hl 0 rfl) ?_
    refine lv_iload_n (pc := 180) hx hb d_R_sayDevice_180 rfl (lv_at hl 3 rfl) ?_
    refine lv_iconst (pc := 181) (v := 1) hx hb d_R_sayDevice_181 (by decide) ?_
    refine lv_icmp_ne (pc := 182) (tgt := 190) hx hb d_R_sayDevice_182 (by decide) (fun c9 => ?_) (fun c9 => ?_)
    · replace h := h.2 c9
      refine lv_iload_n (pc := 190) hx hb d_R_sayDevice_190 rfl (lv_at hl 3 rfl) ?_
      refine lv_iconst (pc := 191) (v := 2) hx hb d_R_sayDevice_191 (by decide) ?_
      refine lv_icmp_ne (pc := 192) (tgt := 200) hx hb d_R_sayDevice_192 (by decide) (fun c9 => ?_) (fun c9 => ?_)
      · replace h := h.2 c9
        refine lv_bipush (pc := 200) (v := 80) hx hb d_R_sayDevice_200 (by decide) ?_
        exact c_R_sayDevice_202 hX fx HR h hw (lv_sub hl [0, 1, 2, 4] rfl)
      · replace h := h.1 c9
        refine lv_bipush (pc := 195) (v := 67) hx hb d_R_sayDevice_195 (by decide) ?_
        refine lv_goto (pc := 197) (tgt := 202) hx hb d_R_sayDevice_197 (by decide) ?_
        exact c_R_sayDevice_202 hX fx HR h hw (lv_sub hl [0, 1, 2, 4] rfl)
    · replace h := h.1 c9
      refine lv_bipush (pc := 185) (v := 83) hx hb d_R_sayDevice_185 (by decide) ?_
      refine lv_goto (pc := 187) (tgt := 202) hx hb d_R_sayDevice_187 (by decide) ?_
      exact c_R_sayDevice_202 hX fx HR h hw (lv_sub hl [0, 1, 2, 4] rfl)
set_option maxHeartbeats 4000000 in
set_option maxRecDepth 100000 in
theorem c_R_sayDevice_137 (hX : XT X) (fx : CallFix p m c b_R_sayDevice 5 s args GW RNR) {post : SS → Prop} (HR : RetV p l e r_R_sayDevice s m args below meth c Q D vcl (tyl cA) (wR cA a) X A b_R_sayDevice post) {σ : SS} {x1 : Int32} {x2 : Int32} {x3 : Int32} {x4 : Int32} {s0 : Int32} {H : Heap} {locs : List Loc} {ls : Array Slot} (h : f_R_sayDevice_137 post σ x1 x2 x3 x4 s0) (hw : CX D vcl (tyl cA) (wR cA a σ) X A s H locs) (hl : lv_has ls 5 [(0, .ref (a 0)), (1, .int x1), (2, .int x2), (3, .int x3), (4, .int x4)]) : W p l e r_R_sayDevice s m args below meth c H locs 0 0 Q (F0 m 137 ls [.int s0, .ref (a 0)]) := by
  have hx := fx.1
  have hb := fx.2.1
  unfold f_R_sayDevice_137 at h
  refine cxU (pc := 137) hX fx hw (c_R_say hX h) cw_R_415 (rcR_0 hw) rfl ⟨Nat.le_of_ble_eq_true rfl, Nat.le_of_ble_eq_true rfl⟩ hl.1 (Nat.le_of_ble_eq_true rfl) d_R_sayDevice_137 ⟨Nat.zero_le _, Nat.zero_le _⟩ (fun σ_13 H locs hw h => ?_)
  refine lv_aload_n (pc := 140) hx hb d_R_sayDevice_140 rfl (lv_at hl 0 rfl) ?_
  refine lv_iload_n (pc := 141) hx hb d_R_sayDevice_141 rfl (lv_at hl 2 rfl) ?_
  refine lv_if_ne (pc := 142) (tgt := 150) hx hb d_R_sayDevice_142 (by decide) (fun c9 => ?_) (fun c9 => ?_)
  · replace h := h.2 c9
    refine lv_iload_n (pc := 150) hx hb d_R_sayDevice_150 rfl (lv_at hl 2 rfl) ?_
    refine lv_iconst (pc := 151) (v := 3) hx hb d_R_sayDevice_151 (by decide) ?_
    refine lv_icmp_ge (pc := 152) (tgt := 160) hx hb d_R_sayDevice_152 (by decide) (fun c9 => ?_) (fun c9 => ?_)
    · replace h := h.1 c9
      refine lv_iload_n (pc := 160) hx hb d_R_sayDevice_160 rfl (lv_at hl 2 rfl) ?_
      refine lv_iconst (pc := 161) (v := 5) hx hb d_R_sayDevice_161 (by decide) ?_
      refine lv_icmp_ge (pc := 162) (tgt := 170) hx hb d_R_sayDevice_162 (by decide) (fun c9 => ?_) (fun c9 => ?_)
      · replace h := h.1 c9
        refine lv_bipush (pc := 170) (v := 67) hx hb d_R_sayDevice_170 (by decide) ?_
        exact c_R_sayDevice_172 hX fx HR h hw (lv_sub hl [0, 1, 2, 3, 4] rfl)
      · replace h := h.2 c9
        refine lv_bipush (pc := 165) (v := 66) hx hb d_R_sayDevice_165 (by decide) ?_
        refine lv_goto (pc := 167) (tgt := 172) hx hb d_R_sayDevice_167 (by decide) ?_
        exact c_R_sayDevice_172 hX fx HR h hw (lv_sub hl [0, 1, 2, 3, 4] rfl)
    · replace h := h.2 c9
      refine lv_bipush (pc := 155) (v := 65) hx hb d_R_sayDevice_155 (by decide) ?_
      refine lv_goto (pc := 157) (tgt := 172) hx hb d_R_sayDevice_157 (by decide) ?_
      exact c_R_sayDevice_172 hX fx HR h hw (lv_sub hl [0, 1, 2, 3, 4] rfl)
  · replace h := h.1 c9
    refine lv_bipush (pc := 145) (v := 79) hx hb d_R_sayDevice_145 (by decide) ?_
    refine lv_goto (pc := 147) (tgt := 172) hx hb d_R_sayDevice_147 (by decide) ?_
    exact c_R_sayDevice_172 hX fx HR h hw (lv_sub hl [0, 1, 2, 3, 4] rfl)
set_option maxHeartbeats 4000000 in
set_option maxRecDepth 100000 in
theorem c_R_sayDevice_115 (hX : XT X) (fx : CallFix p m c b_R_sayDevice 5 s args GW RNR) {post : SS → Prop} (HR : RetV p l e r_R_sayDevice s m args below meth c Q D vcl (tyl cA) (wR cA a) X A b_R_sayDevice post) {σ : SS} {x1 : Int32} {x2 : Int32} {x3 : Int32} {x4 : Int32} {s0 : Int32} {H : Heap} {locs : List Loc} {ls : Array Slot} (h : f_R_sayDevice_115 post σ x1 x2 x3 x4 s0) (hw : CX D vcl (tyl cA) (wR cA a σ) X A s H locs) (hl : lv_has ls 5 [(0, .ref (a 0)), (1, .int x1), (2, .int x2), (3, .int x3), (4, .int x4)]) : W p l e r_R_sayDevice s m args below meth c H locs 0 0 Q (F0 m 115 ls [.int s0, .ref (a 0)]) := by
  have hx := fx.1
  have hb := fx.2.1
  unfold f_R_sayDevice_115 at h
  refine cxU (pc := 115) hX fx hw (c_R_say hX h) cw_R_415 (rcR_0 hw) rfl ⟨Nat.le_of_ble_eq_true rfl, Nat.le_of_ble_eq_true rfl⟩ hl.1 (Nat.le_of_ble_eq_true rfl) d_R_sayDevice_115 ⟨Nat.zero_le _, Nat.zero_le _⟩ (fun σ_15 H locs hw h => ?_)
  refine lv_aload_n (pc := 118) hx hb d_R_sayDevice_118 rfl (lv_at hl 0 rfl) ?_
  refine lv_iload_n (pc := 119) hx hb d_R_sayDevice_119 rfl (lv_at hl 2 rfl) ?_
  refine lv_iconst (pc := 120) (v := 2) hx hb d_R_sayDevice_120 (by decide) ?_
  refine lv_irem (pc := 121) hx hb d_R_sayDevice_121 (by decide) ?_
  refine lv_iconst (pc := 122) (v := 1) hx hb d_R_sayDevice_122 (by decide) ?_
  refine lv_icmp_eq (pc := 123) (tgt := 130) hx hb d_R_sayDevice_123 (by decide) (fun c9 => ?_) (fun c9 => ?_)
  · replace h := h.1 c9
    refine lv_bipush (pc := 130) (v := 73) hx hb d_R_sayDevice_130 (by decide) ?_
    refine lv_goto (pc := 132) (tgt := 137) hx hb d_R_sayDevice_132 (by decide) ?_
    exact c_R_sayDevice_137 hX fx HR h hw (lv_sub hl [0, 1, 2, 3, 4] rfl)
  · replace h := h.2 c9
    refine lv_iload_n (pc := 126) hx hb d_R_sayDevice_126 rfl (lv_at hl 2 rfl) ?_
    refine lv_if_ne (pc := 127) (tgt := 135) hx hb d_R_sayDevice_127 (by decide) (fun c9 => ?_) (fun c9 => ?_)
    · replace h := h.2 c9
      refine lv_bipush (pc := 135) (v := 79) hx hb d_R_sayDevice_135 (by decide) ?_
      exact c_R_sayDevice_137 hX fx HR h hw (lv_sub hl [0, 1, 2, 3, 4] rfl)
    · replace h := h.1 c9
      refine lv_bipush (pc := 130) (v := 73) hx hb d_R_sayDevice_130 (by decide) ?_
      refine lv_goto (pc := 132) (tgt := 137) hx hb d_R_sayDevice_132 (by decide) ?_
      exact c_R_sayDevice_137 hX fx HR h hw (lv_sub hl [0, 1, 2, 3, 4] rfl)
set_option maxHeartbeats 4000000 in
set_option maxRecDepth 100000 in
theorem c_R_sayDevice_103 (hX : XT X) (fx : CallFix p m c b_R_sayDevice 5 s args GW RNR) {post : SS → Prop} (HR : RetV p l e r_R_sayDevice s m args below meth c Q D vcl (tyl cA) (wR cA a) X A b_R_sayDevice post) {σ : SS} {x1 : Int32} {x2 : Int32} {x3 : Int32} {x4 : Int32} {H : Heap} {locs : List Loc} {ls : Array Slot} (h : f_R_sayDevice_103 post σ x1 x2 x3 x4) (hw : CX D vcl (tyl cA) (wR cA a σ) X A s H locs) (hl : lv_has ls 5 [(0, .ref (a 0)), (1, .int x1), (2, .int x2), (3, .int x3), (4, .int x4)]) : W p l e r_R_sayDevice s m args below meth c H locs 0 0 Q (F0 m 103 ls []) := by
  have hx := fx.1
  have hb := fx.2.1
  unfold f_R_sayDevice_103 at h
  refine lv_aload_n (pc := 103) hx hb d_R_sayDevice_103 rfl (lv_at hl 0 rfl) ?_
  refine lv_iload_n (pc := 104) hx hb d_R_sayDevice_104 rfl (lv_at hl 2 rfl) ?_
  refine lv_if_ne (pc := 105) (tgt := 113) hx hb d_R_sayDevice_105 (by decide) (fun c9 => ?_) (fun c9 => ?_)
  · replace h := h.2 c9
    refine lv_bipush (pc := 113) (v := 68) hx hb d_R_sayDevice_113 (by decide) ?_
    exact c_R_sayDevice_115 hX fx HR h hw (lv_sub hl [0, 1, 2, 3, 4] rfl)
  · replace h := h.1 c9
    refine lv_bipush (pc := 108) (v := 78) hx hb d_R_sayDevice_108 (by decide) ?_
    refine lv_goto (pc := 110) (tgt := 115) hx hb d_R_sayDevice_110 (by decide) ?_
    exact c_R_sayDevice_115 hX fx HR h hw (lv_sub hl [0, 1, 2, 3, 4] rfl)
set_option maxHeartbeats 4000000 in
set_option maxRecDepth 100000 in
theorem c_R_sayDevice_67 (hX : XT X) (fx : CallFix p m c b_R_sayDevice 5 s args GW RNR) {post : SS → Prop} (HR : RetV p l e r_R_sayDevice s m args below meth c Q D vcl (tyl cA) (wR cA a) X A b_R_sayDevice post) {σ : SS} {x1 : Int32} {s0 : Int64} {H : Heap} {locs : List Loc} {ls : Array Slot} (h : f_R_sayDevice_67 post σ x1 s0) (hw : CX D vcl (tyl cA) (wR cA a σ) X A s H locs) (hl : lv_has ls 5 [(0, .ref (a 0)), (1, .int x1)]) : W p l e r_R_sayDevice s m args below meth c H locs 0 0 Q (F0 m 67 ls [.long s0, .ref (a 0)]) := by
  have hx := fx.1
  have hb := fx.2.1
  unfold f_R_sayDevice_67 at h
  refine cxU (pc := 67) hX fx hw (c_R_sayName hX h) cw_R_425 (rcR_0 hw) rfl ⟨Nat.le_of_ble_eq_true rfl, Nat.le_of_ble_eq_true rfl⟩ hl.1 (Nat.le_of_ble_eq_true rfl) d_R_sayDevice_67 ⟨Nat.zero_le _, Nat.zero_le _⟩ (fun σ_17 H locs hw h => ?_)
  refine lv_aload_n (pc := 70) hx hb d_R_sayDevice_70 rfl (lv_at hl 0 rfl) ?_
  refine lv_bipush (pc := 71) (v := 32) hx hb d_R_sayDevice_71 (by decide) ?_
  refine cxU (pc := 73) hX fx hw (c_R_say hX h) cw_R_415 (rcR_0 hw) rfl ⟨Nat.le_of_ble_eq_true rfl, Nat.le_of_ble_eq_true rfl⟩ hl.1 (Nat.le_of_ble_eq_true rfl) d_R_sayDevice_73 ⟨Nat.zero_le _, Nat.zero_le _⟩ (fun σ_19 H locs hw h => ?_)
  refine lv_aload_n (pc := 76) hx hb d_R_sayDevice_76 rfl (lv_at hl 0 rfl) ?_
  refine lv_iload_n (pc := 77) hx hb d_R_sayDevice_77 rfl (lv_at hl 1 rfl) ?_
  refine lv_bipush (pc := 78) (v := 64) hx hb d_R_sayDevice_78 (by decide) ?_
  refine lv_irem (pc := 80) hx hb d_R_sayDevice_80 (by decide) ?_
  refine cxU (pc := 81) hX fx hw (c_R_octal hX h) cw_R_418 (rcR_0 hw) rfl ⟨Nat.le_of_ble_eq_true rfl, Nat.le_of_ble_eq_true rfl⟩ hl.1 (Nat.le_of_ble_eq_true rfl) d_R_sayDevice_81 ⟨Nat.zero_le _, Nat.zero_le _⟩ (fun σ_21 H locs hw h => ?_)
  exact HR d_R_sayDevice_84 h hw
set_option maxHeartbeats 4000000 in
set_option maxRecDepth 100000 in
theorem e_R_sayDevice (hX : XT X) (fx : CallFix p m c b_R_sayDevice 5 s args GW RNR) {post : SS → Prop} (HR : RetV p l e r_R_sayDevice s m args below meth c Q D vcl (tyl cA) (wR cA a) X A b_R_sayDevice post) {σ : SS} {x1 : Int32} {H : Heap} {locs : List Loc} {ls : Array Slot} (h : f_R_sayDevice post σ x1) (hw : CX D vcl (tyl cA) (wR cA a σ) X A s H locs) (hl : lv_has ls 5 [(0, .ref (a 0)), (1, .int x1)]) : W p l e r_R_sayDevice s m args below meth c H locs 0 0 Q (F0 m 0 ls []) := by
  have hx := fx.1
  have hb := fx.2.1
  unfold f_R_sayDevice at h
  refine lv_iload_n (pc := 0) hx hb d_R_sayDevice_0 rfl (lv_at hl 1 rfl) ?_
  refine lv_sipush (pc := 1) (v := 256) hx hb d_R_sayDevice_1 (by decide) ?_
  refine lv_idiv (pc := 4) hx hb d_R_sayDevice_4 (by decide) ?_
  refine lv_bipush (pc := 5) (v := 8) hx hb d_R_sayDevice_5 (by decide) ?_
  refine lv_irem (pc := 7) hx hb d_R_sayDevice_7 (by decide) ?_
  refine lv_topi (fun x2_23 e9 => ?_)
  replace h := nm_u h e9
  clear e9
  refine lv_istore_n (pc := 8) (lv' := [(2, .int x2_23), (0, .ref (a 0)), (1, .int x1)]) hx hb d_R_sayDevice_8 rfl hl (by decide) rfl (fun ls hl => ?_)
  refine lv_iload_n (pc := 9) hx hb d_R_sayDevice_9 rfl (lv_at hl 2 rfl) ?_
  refine lv_bipush (pc := 10) (v := 64) hx hb d_R_sayDevice_10 (by decide) ?_
  refine lv_idiv (pc := 12) hx hb d_R_sayDevice_12 (by decide) ?_
  refine lv_iconst (pc := 13) (v := 4) hx hb d_R_sayDevice_13 (by decide) ?_
  refine lv_irem (pc := 14) hx hb d_R_sayDevice_14 (by decide) ?_
  refine lv_topi (fun x3_24 e9 => ?_)
  replace h := nm_u h e9
  clear e9
  refine lv_istore_n (pc := 15) (lv' := [(3, .int x3_24), (2, .int x2_23), (0, .ref (a 0)), (1, .int x1)]) hx hb d_R_sayDevice_15 rfl hl (by decide) rfl (fun ls hl => ?_)
  refine lv_iload_n (pc := 16) hx hb d_R_sayDevice_16 rfl (lv_at hl 3 rfl) ?_
  refine lv_sipush (pc := 17) (v := 2048) hx hb d_R_sayDevice_17 (by decide) ?_
  refine lv_idiv (pc := 20) hx hb d_R_sayDevice_20 (by decide) ?_
  refine lv_iconst (pc := 21) (v := 4) hx hb d_R_sayDevice_21 (by decide) ?_
  refine lv_irem (pc := 22) hx hb d_R_sayDevice_22 (by decide) ?_
  refine lv_topi (fun x4_25 e9 => ?_)
  replace h := nm_u h e9
  clear e9
  refine lv_istore (pc := 23) (lv' := [(4, .int x4_25), (3, .int x3_24), (2, .int x2_23), (0, .ref (a 0)), (1, .int x1)]) hx hb d_R_sayDevice_23 hl (by decide) rfl (fun ls hl => ?_)
  refine lv_iload_n (pc := 25) hx hb d_R_sayDevice_25 rfl (lv_at hl 2 rfl) ?_
  refine lv_bipush (pc := 26) (v := 7) hx hb d_R_sayDevice_26 (by decide) ?_
  refine lv_icmp_ne (pc := 28) (tgt := 85) hx hb d_R_sayDevice_28 (by decide) (fun c9 => ?_) (fun c9 => ?_)
  · replace h := h.2 c9
    refine lv_iload_n (pc := 85) hx hb d_R_sayDevice_85 rfl (lv_at hl 4 rfl) ?_
    refine lv_bipush (pc := 86) (v := 64) hx hb d_R_sayDevice_86 (by decide) ?_
    refine lv_irem (pc := 88) hx hb d_R_sayDevice_88 (by decide) ?_
    refine lv_bipush (pc := 89) (v := 63) hx hb d_R_sayDevice_89 (by decide) ?_
    refine lv_icmp_ne (pc := 91) (tgt := 103) hx hb d_R_sayDevice_91 (by decide) (fun c9 => ?_) (fun c9 => ?_)
    · replace h := h.2 c9
      exact c_R_sayDevice_103 hX fx HR h hw (lv_sub hl [3, 4, 2, 1, 0] rfl)
    · replace h := h.1 c9
      refine lv_aload_n (pc := 94) hx hb d_R_sayDevice_94 rfl (lv_at hl 3 rfl) ?_
      refine lv_iload_n (pc := 95) hx hb d_R_sayDevice_95 rfl (lv_at hl 4 rfl) ?_
      refine cxI (pc := 96) hX fx hw (c_R_sayMachine hX h) cw_R_431 (rcR_0 hw) rfl ⟨Nat.le_of_ble_eq_true rfl, Nat.le_of_ble_eq_true rfl⟩ hl.1 (Nat.le_of_ble_eq_true rfl) d_R_sayDevice_96 ⟨Nat.zero_le _, Nat.zero_le _⟩ (fun r_27 σ_26 H locs hw h => ?_)
      have zr_27 := h.1
      replace h := h.2
      refine lv_if_eq (pc := 99) (tgt := 103) hx hb d_R_sayDevice_99 (by decide) (fun c9 => ?_) (fun c9 => ?_)
      · replace h := h.1 c9
        exact c_R_sayDevice_103 hX fx HR h hw (lv_sub hl [3, 4, 2, 1, 0] rfl)
      · replace h := h.2 c9
        exact HR d_R_sayDevice_102 h hw
  · replace h := h.1 c9
    refine lv_aload_n (pc := 31) hx hb d_R_sayDevice_31 rfl (lv_at hl 3 rfl) ?_
    refine lv_iload_n (pc := 32) hx hb d_R_sayDevice_32 rfl (lv_at hl 1 rfl) ?_
    refine lv_if_ne (pc := 33) (tgt := 42) hx hb d_R_sayDevice_33 (by decide) (fun c9 => ?_) (fun c9 => ?_)
    · replace h := h.2 c9
      refine lv_iload_n (pc := 42) hx hb d_R_sayDevice_42 rfl (lv_at hl 1 rfl) ?_
      refine lv_iconst (pc := 43) (v := 1) hx hb d_R_sayDevice_43 (by decide) ?_
      refine lv_icmp_ne (pc := 44) (tgt := 53) hx hb d_R_sayDevice_44 (by decide) (fun c9 => ?_) (fun c9 => ?_)
      · replace h := h.2 c9
        refine lv_iload_n (pc := 53) hx hb d_R_sayDevice_53 rfl (lv_at hl 1 rfl) ?_
        refine lv_iconst (pc := 54) (v := 2) hx hb d_R_sayDevice_54 (by decide) ?_
        refine lv_icmp_ne (pc := 55) (tgt := 64) hx hb d_R_sayDevice_55 (by decide) (fun c9 => ?_) (fun c9 => ?_)
        · replace h := h.2 c9
          refine lv_ldc2 (pc := 64) (v := 357745837146) hx hb fx.2.2.2.1 (fx.2.2.2.2 _ kw_1423) d_R_sayDevice_64 ?_
          exact c_R_sayDevice_67 hX fx HR h hw (lv_sub hl [3, 4] rfl)
        · replace h := h.1 c9
          refine lv_ldc2 (pc := 58) (v := 357745837134) hx hb fx.2.2.2.1 (fx.2.2.2.2 _ kw_1422) d_R_sayDevice_58 ?_
          refine lv_goto (pc := 61) (tgt := 67) hx hb d_R_sayDevice_61 (by decide) ?_
          exact c_R_sayDevice_67 hX fx HR h hw (lv_sub hl [3, 4] rfl)
      · replace h := h.1 c9
        refine lv_ldc2 (pc := 47) (v := 357745836634) hx hb fx.2.2.2.1 (fx.2.2.2.2 _ kw_1421) d_R_sayDevice_47 ?_
        refine lv_goto (pc := 50) (tgt := 67) hx hb d_R_sayDevice_50 (by decide) ?_
        exact c_R_sayDevice_67 hX fx HR h hw (lv_sub hl [3, 4] rfl)
    · replace h := h.1 c9
      refine lv_ldc2 (pc := 36) (v := 357745836622) hx hb fx.2.2.2.1 (fx.2.2.2.2 _ kw_1420) d_R_sayDevice_36 ?_
      refine lv_goto (pc := 39) (tgt := 67) hx hb d_R_sayDevice_39 (by decide) ?_
      exact c_R_sayDevice_67 hX fx HR h hw (lv_sub hl [3, 4] rfl)
end
theorem c_R_sayDevice {l : Launch} {D : va_G} {cA : Nat → ClassId} {a : Nat → Nat} {X : (Nat → Prop) → State → Prop} (hX : XT X) {σ : SS} {post : SS → Prop} {x1 : Int32} (h : f_R_sayDevice post σ x1) : mV l y_R_sayDevice b_R_sayDevice 5 none 4 93 D vcl (tyl cA) (wR cA a) X σ [.ref (a 0), .int x1] post := met_V (by decide) (Nat.le_of_ble_eq_true rfl) (fun p e s m args below meth c A Q fx HR H ls hw hl => e_R_sayDevice hX fx HR h hw hl)
abbrev r_R_tell : Room := { frames := 5, cells := 0, slots := 0, locals := 117 }
def f_R_tell_202 (post : Int32 → SS → Prop) (σ : SS) (x2 : Int32) (s0 : Int64) : Prop := f_R_sayName (fun σ_1 => f_R_say (fun σ_3 => f_R_sayAddress (fun σ_5 => post (σ_5.1 28) σ_5) σ_3 x2) σ_1 32) σ s0
def f_R_tell_138 (post : Int32 → SS → Prop) (σ : SS) (x2 : Int32) (x3 : Int32) (s0 : Int64) : Prop := f_R_sayName (fun σ_7 => f_R_say (fun σ_9 => f_R_octal (fun σ_11 => f_R_say (fun σ_13 => f_R_sayAddress (fun σ_15 => post (σ_15.1 28) σ_15) σ_13 x2) σ_11 44) σ_9 x3) σ_7 32) σ s0
def f_R_tell_103 (post : Int32 → SS → Prop) (σ : SS) (x2 : Int32) : Prop := f_R_sayDevice (fun σ_17 => post (σ_17.1 28) σ_17) σ x2
def f_R_tell_95 (post : Int32 → SS → Prop) (σ : SS) (x2 : Int32) : Prop := f_R_octal (fun σ_19 => post (σ_19.1 28) σ_19) σ x2
def f_R_tell_17 (post : Int32 → SS → Prop) (σ : SS) (x1 : Int32) (s0 : Int32) : Prop := f_R_fails (fun r_22 σ_21 => br (r_22 = 0) (vp_in x1 32768 ∧ nm (σ_21.2.1 1 x1.toNatClampNeg) fun x2_23 => nm (sI σ_21 28 0) fun σ_24 => nm ((x2_23 / 2048) - (x2_23 / 2048) / 4 * 4) fun x3_25 => br (x2_23 < 32768) (br ((x2_23 / 8192) = 3) (nm ((x2_23 / 256) - (x2_23 / 256) / 8 * 8) fun x4_26 => br (x3_25 ≤ 0) (f_R_tell_103 post σ_24 x2_23) (br (x4_26 = 0) (f_R_tell_95 post σ_24 x2_23) (br (x4_26 = 7) (f_R_tell_95 post σ_24 x2_23) (f_R_tell_103 post σ_24 x2_23)))) (br ((x2_23 / 8192) ≤ 0) (br (x3_25 = 0) (f_R_tell_202 post σ_24 x2_23 4869456) (br (x3_25 = 1) (f_R_tell_202 post σ_24 x2_23 4870994) (br (x3_25 = 2) (f_R_tell_202 post σ_24 x2_23 4805466) (f_R_tell_202 post σ_24 x2_23 4477786)))) (br ((x2_23 / 8192) = 1) (f_R_tell_138 post σ_24 x2_23 x3_25 4998209) (f_R_tell_138 post σ_24 x2_23 x3_25 5461057)))) (f_R_sayReckoning (fun σ_27 => post (σ_27.1 28) σ_27) σ_24 x2_23)) (post 0 σ_21)) σ s0 1
def f_R_tell (post : Int32 → SS → Prop) (σ : SS) (x1 : Int32) : Prop := f_R_within (fun r_30 σ_29 => br (r_30 = 0) (f_R_tell_17 post σ_29 x1 1) (f_R_tell_17 post σ_29 x1 0)) σ x1 0 32767
section
variable {p : Program} {l : Launch} {e : Env} {s : State} {m : MethodId} {args : Array Value} {below : List Frame} {meth : Method} {c : Code} {Q : State → Prop} {D : va_G} {cA : Nat → ClassId} {a : Nat → Nat} {X : (Nat → Prop) → State → Prop} {A : Nat → Prop}
set_option maxHeartbeats 4000000 in
set_option maxRecDepth 100000 in
theorem c_R_tell_202 (hX : XT X) (fx : CallFix p m c b_R_tell 5 s args GW RNR) {post : Int32 → SS → Prop} (HR : RetI p l e r_R_tell s m args below meth c Q D vcl (tyl cA) (wR cA a) X A b_R_tell .int post) {σ : SS} {x2 : Int32} {s0 : Int64} {H : Heap} {locs : List Loc} {ls : Array Slot} (h : f_R_tell_202 post σ x2 s0) (hw : CX D vcl (tyl cA) (wR cA a σ) X A s H locs) (hl : lv_has ls 5 [(0, .ref (a 0)), (2, .int x2)]) : W p l e r_R_tell s m args below meth c H locs 0 0 Q (F0 m 202 ls [.long s0, .ref (a 0)]) := by
  have hx := fx.1
  have hb := fx.2.1
  unfold f_R_tell_202 at h
  refine cxU (pc := 202) hX fx hw (c_R_sayName hX h) cw_R_425 (rcR_0 hw) rfl ⟨Nat.le_of_ble_eq_true rfl, Nat.le_of_ble_eq_true rfl⟩ hl.1 (Nat.le_of_ble_eq_true rfl) d_R_tell_202 ⟨Nat.zero_le _, Nat.zero_le _⟩ (fun σ_1 H locs hw h => ?_)
  refine lv_aload_n (pc := 205) hx hb d_R_tell_205 rfl (lv_at hl 0 rfl) ?_
  refine lv_bipush (pc := 206) (v := 32) hx hb d_R_tell_206 (by decide) ?_
  refine cxU (pc := 208) hX fx hw (c_R_say hX h) cw_R_415 (rcR_0 hw) rfl ⟨Nat.le_of_ble_eq_true rfl, Nat.le_of_ble_eq_true rfl⟩ hl.1 (Nat.le_of_ble_eq_true rfl) d_R_tell_208 ⟨Nat.zero_le _, Nat.zero_le _⟩ (fun σ_3 H locs hw h => ?_)
  refine lv_aload_n (pc := 211) hx hb d_R_tell_211 rfl (lv_at hl 0 rfl) ?_
  refine lv_iload_n (pc := 212) hx hb d_R_tell_212 rfl (lv_at hl 1 rfl) ?_
  refine cxU (pc := 213) hX fx hw (c_R_sayAddress hX h) cw_R_440 (rcR_0 hw) rfl ⟨Nat.le_of_ble_eq_true rfl, Nat.le_of_ble_eq_true rfl⟩ hl.1 (Nat.le_of_ble_eq_true rfl) d_R_tell_213 ⟨Nat.zero_le _, Nat.zero_le _⟩ (fun σ_5 H locs hw h => ?_)
  refine lv_aload_n (pc := 216) hx hb d_R_tell_216 rfl (lv_at hl 0 rfl) ?_
  refine gR_0_toldSize (pc := 217) fx hw kw_1114 d_R_tell_217 ?_
  exact HR rfl d_R_tell_220 h hw
set_option maxHeartbeats 4000000 in
set_option maxRecDepth 100000 in
theorem c_R_tell_138 (hX : XT X) (fx : CallFix p m c b_R_tell 5 s args GW RNR) {post : Int32 → SS → Prop} (HR : RetI p l e r_R_tell s m args below meth c Q D vcl (tyl cA) (wR cA a) X A b_R_tell .int post) {σ : SS} {x2 : Int32} {x3 : Int32} {s0 : Int64} {H : Heap} {locs : List Loc} {ls : Array Slot} (h : f_R_tell_138 post σ x2 x3 s0) (hw : CX D vcl (tyl cA) (wR cA a σ) X A s H locs) (hl : lv_has ls 5 [(0, .ref (a 0)), (2, .int x2), (3, .int x3)]) : W p l e r_R_tell s m args below meth c H locs 0 0 Q (F0 m 138 ls [.long s0, .ref (a 0)]) := by
  have hx := fx.1
  have hb := fx.2.1
  unfold f_R_tell_138 at h
  refine cxU (pc := 138) hX fx hw (c_R_sayName hX h) cw_R_425 (rcR_0 hw) rfl ⟨Nat.le_of_ble_eq_true rfl, Nat.le_of_ble_eq_true rfl⟩ hl.1 (Nat.le_of_ble_eq_true rfl) d_R_tell_138 ⟨Nat.zero_le _, Nat.zero_le _⟩ (fun σ_7 H locs hw h => ?_)
  refine lv_aload_n (pc := 141) hx hb d_R_tell_141 rfl (lv_at hl 0 rfl) ?_
  refine lv_bipush (pc := 142) (v := 32) hx hb d_R_tell_142 (by decide) ?_
  refine cxU (pc := 144) hX fx hw (c_R_say hX h) cw_R_415 (rcR_0 hw) rfl ⟨Nat.le_of_ble_eq_true rfl, Nat.le_of_ble_eq_true rfl⟩ hl.1 (Nat.le_of_ble_eq_true rfl) d_R_tell_144 ⟨Nat.zero_le _, Nat.zero_le _⟩ (fun σ_9 H locs hw h => ?_)
  refine lv_aload_n (pc := 147) hx hb d_R_tell_147 rfl (lv_at hl 0 rfl) ?_
  refine lv_iload_n (pc := 148) hx hb d_R_tell_148 rfl (lv_at hl 2 rfl) ?_
  refine cxU (pc := 149) hX fx hw (c_R_octal hX h) cw_R_418 (rcR_0 hw) rfl ⟨Nat.le_of_ble_eq_true rfl, Nat.le_of_ble_eq_true rfl⟩ hl.1 (Nat.le_of_ble_eq_true rfl) d_R_tell_149 ⟨Nat.zero_le _, Nat.zero_le _⟩ (fun σ_11 H locs hw h => ?_)
  refine lv_aload_n (pc := 152) hx hb d_R_tell_152 rfl (lv_at hl 0 rfl) ?_
  refine lv_bipush (pc := 153) (v := 44) hx hb d_R_tell_153 (by decide) ?_
  refine cxU (pc := 155) hX fx hw (c_R_say hX h) cw_R_415 (rcR_0 hw) rfl ⟨Nat.le_of_ble_eq_true rfl, Nat.le_of_ble_eq_true rfl⟩ hl.1 (Nat.le_of_ble_eq_true rfl) d_R_tell_155 ⟨Nat.zero_le _, Nat.zero_le _⟩ (fun σ_13 H locs hw h => ?_)
  refine lv_aload_n (pc := 158) hx hb d_R_tell_158 rfl (lv_at hl 0 rfl) ?_
  refine lv_iload_n (pc := 159) hx hb d_R_tell_159 rfl (lv_at hl 1 rfl) ?_
  refine cxU (pc := 160) hX fx hw (c_R_sayAddress hX h) cw_R_440 (rcR_0 hw) rfl ⟨Nat.le_of_ble_eq_true rfl, Nat.le_of_ble_eq_true rfl⟩ hl.1 (Nat.le_of_ble_eq_true rfl) d_R_tell_160 ⟨Nat.zero_le _, Nat.zero_le _⟩ (fun σ_15 H locs hw h => ?_)
  refine lv_goto (pc := 163) (tgt := 216) hx hb d_R_tell_163 (by decide) ?_
  refine lv_aload_n (pc := 216) hx hb d_R_tell_216 rfl (lv_at hl 0 rfl) ?_
  refine gR_0_toldSize (pc := 217) fx hw kw_1114 d_R_tell_217 ?_
  exact HR rfl d_R_tell_220 h hw
set_option maxHeartbeats 4000000 in
set_option maxRecDepth 100000 in
theorem c_R_tell_103 (hX : XT X) (fx : CallFix p m c b_R_tell 5 s args GW RNR) {post : Int32 → SS → Prop} (HR : RetI p l e r_R_tell s m args below meth c Q D vcl (tyl cA) (wR cA a) X A b_R_tell .int post) {σ : SS} {x2 : Int32} {H : Heap} {locs : List Loc} {ls : Array Slot} (h : f_R_tell_103 post σ x2) (hw : CX D vcl (tyl cA) (wR cA a σ) X A s H locs) (hl : lv_has ls 5 [(0, .ref (a 0)), (2, .int x2)]) : W p l e r_R_tell s m args below meth c H locs 0 0 Q (F0 m 103 ls []) := by
  have hx := fx.1
  have hb := fx.2.1
  unfold f_R_tell_103 at h
  refine lv_aload_n (pc := 103) hx hb d_R_tell_103 rfl (lv_at hl 0 rfl) ?_
  refine lv_iload_n (pc := 104) hx hb d_R_tell_104 rfl (lv_at hl 1 rfl) ?_
  refine cxU (pc := 105) hX fx hw (c_R_sayDevice hX h) cw_R_437 (rcR_0 hw) rfl ⟨Nat.le_of_ble_eq_true rfl, Nat.le_of_ble_eq_true rfl⟩ hl.1 (Nat.le_of_ble_eq_true rfl) d_R_tell_105 ⟨Nat.zero_le _, Nat.zero_le _⟩ (fun σ_17 H locs hw h => ?_)
  refine lv_goto (pc := 108) (tgt := 216) hx hb d_R_tell_108 (by decide) ?_
  refine lv_aload_n (pc := 216) hx hb d_R_tell_216 rfl (lv_at hl 0 rfl) ?_
  refine gR_0_toldSize (pc := 217) fx hw kw_1114 d_R_tell_217 ?_
  exact HR rfl d_R_tell_220 h hw
set_option maxHeartbeats 4000000 in
set_option maxRecDepth 100000 in
theorem c_R_tell_95 (hX : XT X) (fx : CallFix p m c b_R_tell 5 s args GW RNR) {post : Int32 → SS → Prop} (HR : RetI p l e r_R_tell s m args below meth c Q D vcl (tyl cA) (wR cA a) X A b_R_tell .int post) {σ : SS} {x2 : Int32} {H : Heap} {locs : List Loc} {ls : Array Slot} (h : f_R_tell_95 post σ x2) (hw : CX D vcl (tyl cA) (wR cA a σ) X A s H locs) (hl : lv_has ls 5 [(0, .ref (a 0)), (2, .int x2)]) : W p l e r_R_tell s m args below meth c H locs 0 0 Q (F0 m 95 ls []) := by
  have hx := fx.1
  have hb := fx.2.1
  unfold f_R_tell_95 at h
  refine lv_aload_n (pc := 95) hx hb d_R_tell_95 rfl (lv_at hl 0 rfl) ?_
  refine lv_iload_n (pc := 96) hx hb d_R_tell_96 rfl (lv_at hl 1 rfl) ?_
  refine cxU (pc := 97) hX fx hw (c_R_octal hX h) cw_R_418 (rcR_0 hw) rfl ⟨Nat.le_of_ble_eq_true rfl, Nat.le_of_ble_eq_true rfl⟩ hl.1 (Nat.le_of_ble_eq_true rfl) d_R_tell_97 ⟨Nat.zero_le _, Nat.zero_le _⟩ (fun σ_19 H locs hw h => ?_)
  refine lv_goto (pc := 100) (tgt := 108) hx hb d_R_tell_100 (by decide) ?_
  refine lv_goto (pc := 108) (tgt := 216) hx hb d_R_tell_108 (by decide) ?_
  refine lv_aload_n (pc := 216) hx hb d_R_tell_216 rfl (lv_at hl 0 rfl) ?_
  refine gR_0_toldSize (pc := 217) fx hw kw_1114 d_R_tell_217 ?_
  exact HR rfl d_R_tell_220 h hw
set_option maxHeartbeats 4000000 in
set_option maxRecDepth 100000 in
theorem c_R_tell_17 (hX : XT X) (fx : CallFix p m c b_R_tell 5 s args GW RNR) {post : Int32 → SS → Prop} (HR : RetI p l e r_R_tell s m args below meth c Q D vcl (tyl cA) (wR cA a) X A b_R_tell .int post) {σ : SS} {x1 : Int32} {s0 : Int32} {H : Heap} {locs : List Loc} {ls : Array Slot} (h : f_R_tell_17 post σ x1 s0) (hw : CX D vcl (tyl cA) (wR cA a σ) X A s H locs) (hl : lv_has ls 5 [(0, .ref (a 0)), (1, .int x1)]) : W p l e r_R_tell s m args below meth c H locs 0 0 Q (F0 m 17 ls [.int s0, .ref (a 0)]) := by
  have hx := fx.1
  have hb := fx.2.1
  unfold f_R_tell_17 at h
  refine lv_iconst (pc := 17) (v := 1) hx hb d_R_tell_17 (by decide) ?_
  refine cxI (pc := 18) hX fx hw (c_R_fails hX h) cw_R_77 (rcR_0 hw) rfl ⟨Nat.le_of_ble_eq_true rfl, Nat.le_of_ble_eq_true rfl⟩ hl.1 (Nat.le_of_ble_eq_true rfl) d_R_tell_18 ⟨Nat.zero_le _, Nat.zero_le _⟩ (fun r_22 σ_21 H locs hw h => ?_)
  have zr_22 := h.1
  replace h := h.2
  refine lv_if_eq (pc := 21) (tgt := 26) hx hb d_R_tell_21 (by decide) (fun c9 => ?_) (fun c9 => ?_)
  · replace h := h.1 c9
    refine lv_aload_n (pc := 26) hx hb d_R_tell_26 rfl (lv_at hl 0 rfl) ?_
    refine gR_0_memory (pc := 27) fx hw kw_1067 d_R_tell_27 ?_
    refine lv_iload_n (pc := 30) hx hb d_R_tell_30 rfl (lv_at hl 1 rfl) ?_
    refine alR_1 (pc := 31) fx hw h.1 d_R_tell_31 ?_
    replace h := h.2
    refine lv_topi (fun x2_23 e9 => ?_)
    replace h := nm_u h e9
    clear e9
    refine lv_istore_n (pc := 32) (lv' := [(2, .int x2_23), (0, .ref (a 0)), (1, .int x1)]) hx hb d_R_tell_32 rfl hl (by decide) rfl (fun ls hl => ?_)
    refine lv_aload_n (pc := 33) hx hb d_R_tell_33 rfl (lv_at hl 1 rfl) ?_
    refine lv_iconst (pc := 34) (v := 0) hx hb d_R_tell_34 (by decide) ?_
    refine pR_0_toldSize (pc := 35) fx hw kw_1114 d_R_tell_35 (fun σ_24 e9 H locs hw => ?_)
    replace h := nm_u h e9
    clear e9
    refine lv_iload_n (pc := 38) hx hb d_R_tell_38 rfl (lv_at hl 0 rfl) ?_
    refine lv_sipush (pc := 39) (v := 2048) hx hb d_R_tell_39 (by decide) ?_
    refine lv_idiv (pc := 42) hx hb d_R_tell_42 (by decide) ?_
    refine lv_iconst (pc := 43) (v := 4) hx hb d_R_tell_43 (by decide) ?_
    refine lv_irem (pc := 44) hx hb d_R_tell_44 (by decide) ?_
    refine lv_topi (fun x3_25 e9 => ?_)
    replace h := nm_u h e9
    clear e9
    refine lv_istore_n (pc := 45) (lv' := [(3, .int x3_25), (2, .int x2_23), (0, .ref (a 0)), (1, .int x1)]) hx hb d_R_tell_45 rfl hl (by decide) rfl (fun ls hl => ?_)
    refine lv_iload_n (pc := 46) hx hb d_R_tell_46 rfl (lv_at hl 1 rfl) ?_
    refine lv_ldc (pc := 47) (v := 32768) hx hb fx.2.2.2.1 (fx.2.2.2.2 _ kw_1066) d_R_tell_47 ?_
    refine lv_icmp_lt (pc := 49) (tgt := 60) hx hb d_R_tell_49 (by decide) (fun c9 => ?_) (fun c9 => ?_)
    · replace h := h.1 c9
      refine lv_iload_n (pc := 60) hx hb d_R_tell_60 rfl (lv_at hl 1 rfl) ?_
      refine lv_sipush (pc := 61) (v := 8192) hx hb d_R_tell_61 (by decide) ?_
      refine lv_idiv (pc := 64) hx hb d_R_tell_64 (by decide) ?_
      refine lv_iconst (pc := 65) (v := 3) hx hb d_R_tell_65 (by decide) ?_
      refine lv_icmp_ne (pc := 66) (tgt := 111) hx hb d_R_tell_66 (by decide) (fun c9 => ?_) (fun c9 => ?_)
      · replace h := h.2 c9
        refine lv_iload_n (pc := 111) hx hb d_R_tell_111 rfl (lv_at hl 1 rfl) ?_
        refine lv_sipush (pc := 112) (v := 8192) hx hb d_R_tell_112 (by decide) ?_
        refine lv_idiv (pc := 115) hx hb d_R_tell_115 (by decide) ?_
        refine lv_if_le (pc := 116) (tgt := 166) hx hb d_R_tell_116 (by decide) (fun c9 => ?_) (fun c9 => ?_)
        · replace h := h.1 c9
          refine lv_aload_n (pc := 166) hx hb d_R_tell_166 rfl (lv_at hl 2 rfl) ?_
          refine lv_iload_n (pc := 167) hx hb d_R_tell_167 rfl (lv_at hl 0 rfl) ?_
          refine lv_if_ne (pc := 168) (tgt := 177) hx hb d_R_tell_168 (by decide) (fun c9 => ?_) (fun c9 => ?_)
          · replace h := h.2 c9
            refine lv_iload_n (pc := 177) hx hb d_R_tell_177 rfl (lv_at hl 0 rfl) ?_
            refine lv_iconst (pc := 178) (v := 1) hx hb d_R_tell_178 (by decide) ?_
            refine lv_icmp_ne (pc := 179) (tgt := 188) hx hb d_R_tell_179 (by decide) (fun c9 => ?_) (fun c9 => ?_)
            · replace h := h.2 c9
              refine lv_iload_n (pc := 188) hx hb d_R_tell_188 rfl (lv_at hl 0 rfl) ?_
              refine lv_iconst (pc := 189) (v := 2) hx hb d_R_tell_189 (by decide) ?_
              refine lv_icmp_ne (pc := 190) (tgt := 199) hx hb d_R_tell_190 (by decide) (fun c9 => ?_) (fun c9 => ?_)
              · replace h := h.2 c9
                refine lv_ldc2 (pc := 199) (v := 4477786) hx hb fx.2.2.2.1 (fx.2.2.2.2 _ kw_1368) d_R_tell_199 ?_
                exact c_R_tell_202 hX fx HR h hw (lv_sub hl [2, 1] rfl)
              · replace h := h.1 c9
                refine lv_ldc2 (pc := 193) (v := 4805466) hx hb fx.2.2.2.1 (fx.2.2.2.2 _ kw_1367) d_R_tell_193 ?_
                refine lv_goto (pc := 196) (tgt := 202) hx hb d_R_tell_196 (by decide) ?_
                exact c_R_tell_202 hX fx HR h hw (lv_sub hl [2, 1] rfl)
            · replace h := h.1 c9
              refine lv_ldc2 (pc := 182) (v := 4870994) hx hb fx.2.2.2.1 (fx.2.2.2.2 _ kw_1366) d_R_tell_182 ?_
              refine lv_goto (pc := 185) (tgt := 202) hx hb d_R_tell_185 (by decide) ?_
              exact c_R_tell_202 hX fx HR h hw (lv_sub hl [2, 1] rfl)
          · replace h := h.1 c9
            refine lv_ldc2 (pc := 171) (v := 4869456) hx hb fx.2.2.2.1 (fx.2.2.2.2 _ kw_1365) d_R_tell_171 ?_
            refine lv_goto (pc := 174) (tgt := 202) hx hb d_R_tell_174 (by decide) ?_
            exact c_R_tell_202 hX fx HR h hw (lv_sub hl [2, 1] rfl)
        · replace h := h.2 c9
          refine lv_aload_n (pc := 119) hx hb d_R_tell_119 rfl (lv_at hl 2 rfl) ?_
          refine lv_iload_n (pc := 120) hx hb d_R_tell_120 rfl (lv_at hl 1 rfl) ?_
          refine lv_sipush (pc := 121) (v := 8192) hx hb d_R_tell_121 (by decide) ?_
          refine lv_idiv (pc := 124) hx hb d_R_tell_124 (by decide) ?_
          refine lv_iconst (pc := 125) (v := 1) hx hb d_R_tell_125 (by decide) ?_
          refine lv_icmp_ne (pc := 126) (tgt := 135) hx hb d_R_tell_126 (by decide) (fun c9 => ?_) (fun c9 => ?_)
          · replace h := h.2 c9
            refine lv_ldc2 (pc := 135) (v := 5461057) hx hb fx.2.2.2.1 (fx.2.2.2.2 _ kw_1373) d_R_tell_135 ?_
            exact c_R_tell_138 hX fx HR h hw (lv_sub hl [2, 1, 0] rfl)
          · replace h := h.1 c9
            refine lv_ldc2 (pc := 129) (v := 4998209) hx hb fx.2.2.2.1 (fx.2.2.2.2 _ kw_1372) d_R_tell_129 ?_
            refine lv_goto (pc := 132) (tgt := 138) hx hb d_R_tell_132 (by decide) ?_
            exact c_R_tell_138 hX fx HR h hw (lv_sub hl [2, 1, 0] rfl)
      · replace h := h.1 c9
        refine lv_iload_n (pc := 69) hx hb d_R_tell_69 rfl (lv_at hl 1 rfl) ?_
        refine lv_sipush (pc := 70) (v := 256) hx hb d_R_tell_70 (by decide) ?_
        refine lv_idiv (pc := 73) hx hb d_R_tell_73 (by decide) ?_
        refine lv_bipush (pc := 74) (v := 8) hx hb d_R_tell_74 (by decide) ?_
        refine lv_irem (pc := 76) hx hb d_R_tell_76 (by decide) ?_
        refine lv_topi (fun x4_26 e9 => ?_)
        replace h := nm_u h e9
        clear e9
        refine lv_istore (pc := 77) (lv' := [(4, .int x4_26), (3, .int x3_25), (2, .int x2_23), (0, .ref (a 0)), (1, .int x1)]) hx hb d_R_tell_77 hl (by decide) rfl (fun ls hl => ?_)
        refine lv_iload_n (pc := 79) hx hb d_R_tell_79 rfl (lv_at hl 1 rfl) ?_
        refine lv_if_le (pc := 80) (tgt := 103) hx hb d_R_tell_80 (by decide) (fun c9 => ?_) (fun c9 => ?_)
        · replace h := h.1 c9
          exact c_R_tell_103 hX fx HR h hw (lv_sub hl [3, 2] rfl)
        · replace h := h.2 c9
          refine lv_iload (pc := 83) hx hb d_R_tell_83 (lv_at hl 0 rfl) ?_
          refine lv_if_eq (pc := 85) (tgt := 95) hx hb d_R_tell_85 (by decide) (fun c9 => ?_) (fun c9 => ?_)
          · replace h := h.1 c9
            exact c_R_tell_95 hX fx HR h hw (lv_sub hl [3, 2] rfl)
          · replace h := h.2 c9
            refine lv_iload (pc := 88) hx hb d_R_tell_88 (lv_at hl 0 rfl) ?_
            refine lv_bipush (pc := 90) (v := 7) hx hb d_R_tell_90 (by decide) ?_
            refine lv_icmp_ne (pc := 92) (tgt := 103) hx hb d_R_tell_92 (by decide) (fun c9 => ?_) (fun c9 => ?_)
            · replace h := h.2 c9
              exact c_R_tell_103 hX fx HR h hw (lv_sub hl [3, 2] rfl)
            · replace h := h.1 c9
              exact c_R_tell_95 hX fx HR h hw (lv_sub hl [3, 2] rfl)
    · replace h := h.2 c9
      refine lv_aload_n (pc := 52) hx hb d_R_tell_52 rfl (lv_at hl 2 rfl) ?_
      refine lv_iload_n (pc := 53) hx hb d_R_tell_53 rfl (lv_at hl 1 rfl) ?_
      refine cxU (pc := 54) hX fx hw (c_R_sayReckoning hX h) cw_R_434 (rcR_0 hw) rfl ⟨Nat.le_of_ble_eq_true rfl, Nat.le_of_ble_eq_true rfl⟩ hl.1 (Nat.le_of_ble_eq_true rfl) d_R_tell_54 ⟨Nat.zero_le _, Nat.zero_le _⟩ (fun σ_27 H locs hw h => ?_)
      refine lv_goto (pc := 57) (tgt := 216) hx hb d_R_tell_57 (by decide) ?_
      refine lv_aload_n (pc := 216) hx hb d_R_tell_216 rfl (lv_at hl 2 rfl) ?_
      refine gR_0_toldSize (pc := 217) fx hw kw_1114 d_R_tell_217 ?_
      exact HR rfl d_R_tell_220 h hw
  · replace h := h.2 c9
    refine lv_iconst (pc := 24) (v := 0) hx hb d_R_tell_24 (by decide) ?_
    exact HR rfl d_R_tell_25 h hw
set_option maxHeartbeats 4000000 in
set_option maxRecDepth 100000 in
theorem e_R_tell (hX : XT X) (fx : CallFix p m c b_R_tell 5 s args GW RNR) {post : Int32 → SS → Prop} (HR : RetI p l e r_R_tell s m args below meth c Q D vcl (tyl cA) (wR cA a) X A b_R_tell .int post) {σ : SS} {x1 : Int32} {H : Heap} {locs : List Loc} {ls : Array Slot} (h : f_R_tell post σ x1) (hw : CX D vcl (tyl cA) (wR cA a σ) X A s H locs) (hl : lv_has ls 5 [(0, .ref (a 0)), (1, .int x1)]) : W p l e r_R_tell s m args below meth c H locs 0 0 Q (F0 m 0 ls []) := by
  have hx := fx.1
  have hb := fx.2.1
  unfold f_R_tell at h
  refine lv_aload_n (pc := 0) hx hb d_R_tell_0 rfl (lv_at hl 0 rfl) ?_
  refine lv_iload_n (pc := 1) hx hb d_R_tell_1 rfl (lv_at hl 1 rfl) ?_
  refine lv_iconst (pc := 2) (v := 0) hx hb d_R_tell_2 (by decide) ?_
  refine lv_sipush (pc := 3) (v := 32767) hx hb d_R_tell_3 (by decide) ?_
  refine cxSI (pc := 6) hX fx hw (c_R_within hX h) cw_R_72 rfl ⟨Nat.le_of_ble_eq_true rfl, Nat.le_of_ble_eq_true rfl⟩ hl.1 (Nat.le_of_ble_eq_true rfl) d_R_tell_6 ⟨Nat.zero_le _, Nat.zero_le _⟩ (fun r_30 σ_29 H locs hw h => ?_)
  have zr_30 := h.1
  replace h := h.2
  refine lv_if_ne (pc := 9) (tgt := 16) hx hb d_R_tell_9 (by decide) (fun c9 => ?_) (fun c9 => ?_)
  · replace h := h.2 c9
    refine lv_iconst (pc := 16) (v := 0) hx hb d_R_tell_16 (by decide) ?_
    exact c_R_tell_17 hX fx HR h hw (lv_sub hl [0, 1] rfl)
  · replace h := h.1 c9
    refine lv_iconst (pc := 12) (v := 1) hx hb d_R_tell_12 (by decide) ?_
    refine lv_goto (pc := 13) (tgt := 17) hx hb d_R_tell_13 (by decide) ?_
    exact c_R_tell_17 hX fx HR h hw (lv_sub hl [0, 1] rfl)
end
theorem c_R_tell {l : Launch} {D : va_G} {cA : Nat → ClassId} {a : Nat → Nat} {X : (Nat → Prop) → State → Prop} (hX : XT X) {σ : SS} {post : Int32 → SS → Prop} {x1 : Int32} (h : f_R_tell post σ x1) : mI l y_R_tell b_R_tell 5 (some .int) 5 117 D vcl (tyl cA) (wR cA a) X σ [.ref (a 0), .int x1] post := met_I (by decide) (Nat.le_of_ble_eq_true rfl) (fun p e s m args below meth c A Q fx HR H ls hw hl => e_R_tell hX fx HR h hw hl)
