/-! the start: what stands from the start, found in the premises -/
theorem kS_lt : ∀ j, j < 50 → kS_len j < 2 ^ 31 := by decide +kernel
theorem ext_S {s : State} {args : Array Value} {A : Nat → Prop} {N : Nat} {tm : Nat → Term} {C : String} (hx : ∀ i, i < N → (Cond.exactly (tm i) C).before args s = true) (hA : ∀ a : Nat, a < s.heap.size → ¬ A a) : ∃ ad : Nat → Nat, ∀ i, i < N → (tm i).eval args s none [] s = some (.ref (ad i)) ∧ va_O C (ad i) A s s.heap := by
  have h0 : ∀ i : Nat, ∃ t : Nat, i < N → (tm i).eval args s none [] s = some (.ref t) ∧ va_O C t A s s.heap := by
    intro i
    by_cases hi : i < N
    · obtain ⟨a, c, cell, k, q1, q2, q3, q4, q5, q6, -⟩ := Cond.exactly_spec (hx i hi)
      exact ⟨a, fun _ => ⟨q1, cell, q3, q5, by rw [q6]; exact q2, hA a (Array.getElem?_eq_some_iff.mp q3).1⟩⟩
    · exact ⟨0, fun h => absurd h hi⟩
  exact Classical.axiomOfChoice h0
theorem ext_inj {s : State} {args : Array Value} {N : Nat} {tm : Nat → Term} {ad : Nat → Nat} (hN : N < 2147483648) (hev : ∀ i, i < N → (tm i).eval args s none [] s = some (.ref (ad i))) (ho : ∀ i, i < N → (Cond.eq (.field (tm i) "java/lang/Enum" "ordinal" "I") (.int (Int32.ofNat i))).before args s = true) : ∀ i j, i < N → j < N → ad i = ad j → i = j := by
  intro i j hi hj e
  have fi := va_eqt (ho i hi)
  have fj := va_eqt (ho j hj)
  rw [va_fe (hev i hi)] at fi
  rw [va_fe (hev j hj), ← e, fi] at fj
  have h : nI i = nI j := by
    have := Option.some.inj fj
    injection this
  rw [q_eq (by omega) (by omega)] at h
  exact h
theorem ls_of {C n d : String} {A : Nat → Prop} {s : State} {args : Array Value} (h : (Cond.laysStatic C n d).before args s = true) (hA : ∀ a : Nat, a < s.heap.size → ¬ A a) : va_LS C n d A s s.heap := by
  obtain ⟨c, k, i, f, a, cell, h1, h2, h3, h4, h5, h6, h7, h8, h9⟩ := Cond.laysStatic_spec h
  exact ⟨c, k, i, f, a, cell, h1, h2, h3, h4, h5, h6, h7, h8, h9, hA a (Array.getElem?_eq_some_iff.mp h5).1⟩
theorem kS_mem {q : String × Nat × String × Nat} (hq : q ∈ kS_refs) : Cond.stringRef q.1 q.2.1 q.2.2.1 ∈ tables_1 := by
  obtain ⟨i, hi⟩ := List.getElem?_of_mem hq
  have hl : i < 54 := (List.getElem?_eq_some_iff.mp hi).1
  have h := (kS_w i hl).1
  rw [hi] at h
  exact List.mem_of_getElem? h.symm
set_option maxRecDepth 100000 in
set_option maxHeartbeats 4000000 in
theorem xl_start {s : State} {b : Nat} (hT : ∀ w ∈ tables_1, w.before #[Value.ref b] s = true) (hgv : (Cond.and given_1 narrow_1).before #[Value.ref b] s = true) : ∃ ad : Nat → Nat → Nat, XL ad (LA s) s := by
  have hA : ∀ a : Nat, a < s.heap.size → ¬ LA s a := fun a h => Nat.not_le.mpr h
  obtain ⟨aS, hS⟩ := ext_S (N := 35) (tm := tmS) (C := "NovaDesk$Statement") (A := LA s) (fun i hi => nw_at hgv (a_Sx i hi)) hA
  obtain ⟨aG, hG⟩ := ext_S (N := 11) (tm := tmG) (C := "NovaDesk$Given") (A := LA s) (fun i hi => nw_at hgv (a_Gx i hi)) hA
  have k0 : ∀ j : Nat, ∃ q : Nat × Nat, j < 50 → (tmK j).eval #[Value.ref b] s none [] s = some (.ref q.1) ∧ va_O "java/lang/String" q.1 (LA s) s s.heap ∧ va_OF "java/lang/String" "coder" "B" (.int 0) q.1 (LA s) s s.heap ∧ va_OF "java/lang/String" "value" "[B" (.ref q.2) q.1 (LA s) s s.heap ∧ va_T .byte q.2 (kS_len j) (fun k => .int (kS_byt j k)) (LA s) s s.heap := by
    intro j
    by_cases hj : j < 50
    · obtain ⟨a, c, cA, kA, q1, q2, q3, q4, q5, q6, -⟩ := Cond.exactly_spec (nw_at hgv (a_Kx j hj))
      obtain ⟨t, ht, hTt⟩ := va_Tof (f := fun k => .int (kS_byt j k)) (A := LA s) (kS_lt j hj) (nw_at hgv (a_Ka j hj)) (va_eqt (nw_at hgv (a_Kl j hj))) (fun k hk => va_eqt (nw_at hgv (a_Ke j hj k hk))) hA
      exact ⟨(a, t), fun _ => ⟨q1, ⟨cA, q3, q5, by rw [q6]; exact q2, hA a (Array.getElem?_eq_some_iff.mp q3).1⟩, vk_OFof q1 (va_eqt (nw_at hgv (a_Kc j hj))) hA, vk_OFof q1 ht hA, hTt⟩⟩
    · exact ⟨(0, 0), fun h => absurd h hj⟩
  obtain ⟨aK, hK⟩ := Classical.axiomOfChoice k0
  obtain ⟨tS, eTS, hTS⟩ := va_Tof (tm := .static "NovaDesk$Statement" "ALL" "[LNovaDesk$Statement;") (ty := .object "NovaDesk$Statement") (N := 35) (f := fun j => .ref (aS j)) (A := LA s) (by decide) (nw_at hgv a_SA1) (va_eqt (nw_at hgv a_SA2)) (fun j hj => va_eqv (nw_at hgv (a_Se j hj)) (hS j hj).1) hA
  obtain ⟨tG, eTG, hTG⟩ := va_Tof (tm := .static "NovaDesk$Given" "ALL" "[LNovaDesk$Given;") (ty := .object "NovaDesk$Given") (N := 11) (f := fun j => .ref (aG j)) (A := LA s) (by decide) (nw_at hgv a_GA1) (va_eqt (nw_at hgv a_GA2)) (fun j hj => va_eqv (nw_at hgv (a_Ge j hj)) (hG j hj).1) hA
  have hR : ∀ q ∈ kS_refs, (Term.string q.1 q.2.1).eval #[Value.ref b] s none [] s = some (.ref (aK q.2.2.2).1) := by
    intro q hq
    rcases kS_main q hq with ⟨e1, e2, e3⟩ | e | e | e | e
    · rw [e1, e2]
      exact (hK _ e3).1
    · subst e; exact va_eqR (nw_at hgv a_D0) (hK 1 (by omega)).1
    · subst e; exact va_eqR (nw_at hgv a_D1) (hK 2 (by omega)).1
    · subst e; exact va_eqR (nw_at hgv a_D2) (hK 3 (by omega)).1
    · subst e; exact va_eqR (nw_at hgv a_D3) (hK 4 (by omega)).1
  have rS : ∀ i, i < 35 → (Term.string "NovaDesk$Statement" (lkS i)).eval #[Value.ref b] s none [] s = some (.ref (aK (eS_letters i)).1) := by
    intro i hi
    have h := kS_S i hi
    cases e : kS_refs[rxS i]? with
    | none => rw [e] at h; cases h
    | some q =>
      rw [e] at h
      have h2 := Option.some.inj h
      have := hR q (List.mem_of_getElem? e)
      have e1 : q.1 = "NovaDesk$Statement" := congrArg (fun z => z.1) h2
      have e2 : q.2.1 = lkS i := congrArg (fun z => z.2.1) h2
      have e3 : q.2.2.2 = eS_letters i := congrArg (fun z => z.2.2) h2
      rw [e1, e2, e3] at this
      exact this
  have rG : ∀ i, i < 11 → (Term.string "NovaDesk$Given" (lkG i)).eval #[Value.ref b] s none [] s = some (.ref (aK (eG_letters i)).1) := by
    intro i hi
    have h := kS_G i hi
    cases e : kS_refs[rxG i]? with
    | none => rw [e] at h; cases h
    | some q =>
      rw [e] at h
      have h2 := Option.some.inj h
      have := hR q (List.mem_of_getElem? e)
      have e1 : q.1 = "NovaDesk$Given" := congrArg (fun z => z.1) h2
      have e2 : q.2.1 = lkG i := congrArg (fun z => z.2.1) h2
      have e3 : q.2.2.2 = eG_letters i := congrArg (fun z => z.2.2) h2
      rw [e1, e2, e3] at this
      exact this
  have evS : ∀ i, i < 35 → (Term.static "NovaDesk$Statement" (nmS.getD i "") "LNovaDesk$Statement;").eval #[Value.ref b] s none [] s = some (.ref (aS i)) := fun i hi => (hS i hi).1
  have evG : ∀ i, i < 11 → (Term.static "NovaDesk$Given" (nmG.getD i "") "LNovaDesk$Given;").eval #[Value.ref b] s none [] s = some (.ref (aG i)) := fun i hi => (hG i hi).1
  have x1 : XC_SO (fun k i => if k = 0 then aS i else if k = 1 then aG i else if k = 2 then (aK i).1 else if k = 3 then (aK i).2 else if i = 0 then tS else tG) (LA s) s := fun i hi => (hS i hi).2
  have x2 : XC_Sform (fun k i => if k = 0 then aS i else if k = 1 then aG i else if k = 2 then (aK i).1 else if k = 3 then (aK i).2 else if i = 0 then tS else tG) (LA s) s := va_Efof (tm := fun i => .int (eS_form i)) evS (fun i hi => nw_at hgv (a_Sform i hi)) (fun _ _ => rfl) hA
  have x3 : XC_Sbits (fun k i => if k = 0 then aS i else if k = 1 then aG i else if k = 2 then (aK i).1 else if k = 3 then (aK i).2 else if i = 0 then tS else tG) (LA s) s := va_Efof (tm := fun i => .int (eS_bits i)) evS (fun i hi => nw_at hgv (a_Sbits i hi)) (fun _ _ => rfl) hA
  have x4 : XC_Sfixed (fun k i => if k = 0 then aS i else if k = 1 then aG i else if k = 2 then (aK i).1 else if k = 3 then (aK i).2 else if i = 0 then tS else tG) (LA s) s := va_Efof (tm := fun i => .int (eS_fixed i)) evS (fun i hi => nw_at hgv (a_Sfixed i hi)) (fun _ _ => rfl) hA
  have x5 : XC_Skey (fun k i => if k = 0 then aS i else if k = 1 then aG i else if k = 2 then (aK i).1 else if k = 3 then (aK i).2 else if i = 0 then tS else tG) (LA s) s := va_Efof (tm := fun i => .long (eS_key i)) evS (fun i hi => nw_at hgv (a_Skey i hi)) (fun _ _ => rfl) hA
  have x6 : XC_Sletters (fun k i => if k = 0 then aS i else if k = 1 then aG i else if k = 2 then (aK i).1 else if k = 3 then (aK i).2 else if i = 0 then tS else tG) (LA s) s := va_Efof (tm := fun i => .string "NovaDesk$Statement" (lkS i)) evS (fun i hi => nw_at hgv (a_Sl i hi)) rS hA
  have x7 : XC_SJ (fun k i => if k = 0 then aS i else if k = 1 then aG i else if k = 2 then (aK i).1 else if k = 3 then (aK i).2 else if i = 0 then tS else tG) (LA s) s := ext_inj (by omega) (fun i hi => (hS i hi).1) (fun i hi => nw_at hgv (a_So i hi))
  have x8 : XC_SW (fun k i => if k = 0 then aS i else if k = 1 then aG i else if k = 2 then (aK i).1 else if k = 3 then (aK i).2 else if i = 0 then tS else tG) (LA s) s := va_Zref (hT _ tw_SW) (hT _ tw_iS) (hS 34 (by omega)).1 hA
  have x9 : XC_SA (fun k i => if k = 0 then aS i else if k = 1 then aG i else if k = 2 then (aK i).1 else if k = 3 then (aK i).2 else if i = 0 then tS else tG) (LA s) s := va_Zref (hT _ tw_SA) (hT _ tw_iS) eTS hA
  have x10 : XC_ST (fun k i => if k = 0 then aS i else if k = 1 then aG i else if k = 2 then (aK i).1 else if k = 3 then (aK i).2 else if i = 0 then tS else tG) (LA s) s := hTS
  have x11 : XC_GO (fun k i => if k = 0 then aS i else if k = 1 then aG i else if k = 2 then (aK i).1 else if k = 3 then (aK i).2 else if i = 0 then tS else tG) (LA s) s := fun i hi => (hG i hi).2
  have x12 : XC_Gnumber (fun k i => if k = 0 then aS i else if k = 1 then aG i else if k = 2 then (aK i).1 else if k = 3 then (aK i).2 else if i = 0 then tS else tG) (LA s) s := va_Efof (tm := fun i => .int (eG_number i)) evG (fun i hi => nw_at hgv (a_Gnumber i hi)) (fun _ _ => rfl) hA
  have x13 : XC_Gkey (fun k i => if k = 0 then aS i else if k = 1 then aG i else if k = 2 then (aK i).1 else if k = 3 then (aK i).2 else if i = 0 then tS else tG) (LA s) s := va_Efof (tm := fun i => .long (eG_key i)) evG (fun i hi => nw_at hgv (a_Gkey i hi)) (fun _ _ => rfl) hA
  have x14 : XC_Gletters (fun k i => if k = 0 then aS i else if k = 1 then aG i else if k = 2 then (aK i).1 else if k = 3 then (aK i).2 else if i = 0 then tS else tG) (LA s) s := va_Efof (tm := fun i => .string "NovaDesk$Given" (lkG i)) evG (fun i hi => nw_at hgv (a_Gl i hi)) rG hA
  have x15 : XC_GJ (fun k i => if k = 0 then aS i else if k = 1 then aG i else if k = 2 then (aK i).1 else if k = 3 then (aK i).2 else if i = 0 then tS else tG) (LA s) s := ext_inj (by omega) (fun i hi => (hG i hi).1) (fun i hi => nw_at hgv (a_Go i hi))
  have x16 : XC_GA (fun k i => if k = 0 then aS i else if k = 1 then aG i else if k = 2 then (aK i).1 else if k = 3 then (aK i).2 else if i = 0 then tS else tG) (LA s) s := va_Zref (hT _ tw_GA) (hT _ tw_iG) eTG hA
  have x17 : XC_GT (fun k i => if k = 0 then aS i else if k = 1 then aG i else if k = 2 then (aK i).1 else if k = 3 then (aK i).2 else if i = 0 then tS else tG) (LA s) s := hTG
  have x18 : XC_KO (fun k i => if k = 0 then aS i else if k = 1 then aG i else if k = 2 then (aK i).1 else if k = 3 then (aK i).2 else if i = 0 then tS else tG) (LA s) s := fun j hj => (hK j hj).2.1
  have x19 : XC_Kc (fun k i => if k = 0 then aS i else if k = 1 then aG i else if k = 2 then (aK i).1 else if k = 3 then (aK i).2 else if i = 0 then tS else tG) (LA s) s := fun j hj => (hK j hj).2.2.1
  have x20 : XC_Kv (fun k i => if k = 0 then aS i else if k = 1 then aG i else if k = 2 then (aK i).1 else if k = 3 then (aK i).2 else if i = 0 then tS else tG) (LA s) s := fun j hj => (hK j hj).2.2.2.1
  have x21 : XC_KT (fun k i => if k = 0 then aS i else if k = 1 then aG i else if k = 2 then (aK i).1 else if k = 3 then (aK i).2 else if i = 0 then tS else tG) (LA s) s := fun j hj => (hK j hj).2.2.2.2
  have x22 : XC_KC (fun k i => if k = 0 then aS i else if k = 1 then aG i else if k = 2 then (aK i).1 else if k = 3 then (aK i).2 else if i = 0 then tS else tG) (LA s) s := va_Zof (hT _ tw_KC) (hT _ tw_iK) (va_eqt (nw_at hgv a_KC)) hA
  have x23 : XC_KR (fun k i => if k = 0 then aS i else if k = 1 then aG i else if k = 2 then (aK i).1 else if k = 3 then (aK i).2 else if i = 0 then tS else tG) (LA s) s := fun q hq => vk_R.of (hT _ (kS_mem hq)) (hR q hq)
  have x24 : XC_PF (fun k i => if k = 0 then aS i else if k = 1 then aG i else if k = 2 then (aK i).1 else if k = 3 then (aK i).2 else if i = 0 then tS else tG) (LA s) s := va_Zqof (hT _ tw_PF) (hT _ tw_iP) (nw_at hgv a_PF) hA
  have xn : XN s := by
    intro c t h1 h2
    have h := nw_at hgv a_XN
    have h1 : s.vm.findClass "java/lang/IllegalStateException" = some c := h1
    have h2 : s.vm.findClass "java/lang/IllegalArgumentException" = some t := h2
    simp [Cond.before, Cond.holds, Cond.value, h1, h2] at h
    exact h
  exact ⟨_, ⟨x1, x2, x3, x4, x5, x6, x7, x8, x9, x10, x11, x12, x13, x14, x15, x16, x17, x18, x19, x20, x21, x22, x23, x24, va_Nw.of rfl (hT _ tw_NW), va_Nw.of rfl (hT _ tw_DW), va_Nw.of rfl (hT _ tw_TD0), va_Nw.of rfl (hT _ tw_TD1), va_Nw.of rfl (hT _ tw_TD2), va_Nw.of rfl (hT _ tw_TC0), va_Nw.of rfl (hT _ tw_TC1), va_Zqof (hT _ tw_T0) (hT _ tw_iT) (nw_at hgv a_T0) hA, va_Zqof (hT _ tw_T1) (hT _ tw_iT) (nw_at hgv a_T1) hA, ls_of (hT _ tw_T0) hA, ls_of (hT _ tw_T1) hA⟩, ⟨va_Nw.of rfl (hT _ tw_k0), va_Nw.of rfl (hT _ tw_k1), va_Nw.of rfl (hT _ tw_k2), va_Nw.of rfl (hT _ tw_k3), va_Nw.of rfl (hT _ tw_k4), va_Nw.of rfl (hT _ tw_k5), va_Nw.of rfl (hT _ tw_k6), va_Nw.of rfl (hT _ tw_k7), va_AO.of (hT _ tw_k8)⟩, xn⟩
theorem arr_of {s : State} {args : Array Value} {ty : FieldType} (h : (Cond.arrayClass ty).before args s = true) (hp : ∀ c9, ty ≠ .object c9) : ∃ cA : ClassId, ArrOfT s cA ty ∧ va_RA s cA ty := by
  obtain ⟨cA, kA, comp, h1, h2, h3⟩ := Cond.arrayClass_spec h
  refine ⟨cA, fun n z => ⟨fun k h => (by cases h), kA, h2, comp, h3⟩, ?_⟩
  cases ty with
  | object c9 => exact absurd rfl (hp c9)
  | _ => exact h1
set_option maxRecDepth 100000 in
theorem k_start {s : State} {args : Array Value} (hT : ∀ w ∈ tables_1, w.before args s = true) (hG : ∀ w ∈ GW, w.before args s = true) : ∃ (D : va_G) (cA : Nat → ClassId), va_K D vcl (tyl cA) s := by
  obtain ⟨c0, i0, k0⟩ := u_known (C := RNR) (T := TTR) (N := 49) hG inwR (hT _ tw_nR)
  obtain ⟨c1, i1, k1⟩ := u_known (C := RNN) (T := TTN) (N := 3) hG inwN (hT _ tw_nN)
  obtain ⟨c2, i2, k2⟩ := u_known (C := RNM) (T := TTM) (N := 14) hG inwM (hT _ tw_nM)
  obtain ⟨c3, i3, k3⟩ := u_known (C := RNA) (T := TTA) (N := 14) hG inwA (hT _ tw_nA)
  obtain ⟨c4, i4, k4⟩ := u_known (C := RNI) (T := TTI) (N := 5) hG inwI (hT _ tw_nI)
  obtain ⟨c5, i5, k5⟩ := u_known (C := RNL) (T := TTL) (N := 3) hG inwL (hT _ tw_nL)
  obtain ⟨c6, i6, k6⟩ := u_known (C := RNT) (T := TTT) (N := 2) hG inwT (hT _ tw_nT)
  obtain ⟨c7, i7, k7⟩ := u_known (C := RNE) (T := TTE) (N := 9) hG inwE (hT _ tw_nE)
  obtain ⟨c8, i8, k8⟩ := u_known (C := RNP) (T := TTP) (N := 8) hG inwP (hT _ tw_nP)
  obtain ⟨c9, i9, k9⟩ := u_known (C := RNK) (T := TTK) (N := 6) hG inwK (hT _ tw_nK)
  obtain ⟨a0, b0, d0⟩ := arr_of (hT _ tw_aint) (fun c9 h => by cases h)
  obtain ⟨a1, b1, d1⟩ := arr_of (hT _ tw_along) (fun c9 h => by cases h)
  obtain ⟨a2, b2, d2⟩ := arr_of (hT _ tw_abyte) (fun c9 h => by cases h)
  obtain ⟨a3, b3, d3⟩ := arr_of (hT _ tw_aboolean) (fun c9 h => by cases h)
  obtain ⟨a4, b4, d4⟩ := arr_of (hT _ tw_achar) (fun c9 h => by cases h)
  obtain ⟨comp, a5, kA, e1, e2, e3, e4, e5⟩ := Cond.arrayOver_spec (hT _ tw_k8)
  have b5 : ArrOfT s a5 (.object "NovaDesk$Device") := fun n z => ⟨fun k h => (by cases h), kA, e3, comp, e4⟩
  have d5 : va_RA s a5 (.object "NovaDesk$Device") := ⟨kA, comp, e3, e4, e1, e5⟩
  refine ⟨(fun k => ([c0, c1, c2, c3, c4, c5, c6, c7, c8, c9] : List ClassId).getD k c0, fun k => ([i0, i1, i2, i3, i4, i5, i6, i7, i8, i9] : List (Nat → Nat)).getD k i0), fun k => ([a0, a1, a2, a3, a4, a5] : List ClassId).getD k a0, fun k q hq => ?_, fun k q hq => ?_⟩
  · match k, hq with
    | 0, hq => cases hq; exact k0
    | 1, hq => cases hq; exact k1
    | 2, hq => cases hq; exact k2
    | 3, hq => cases hq; exact k3
    | 4, hq => cases hq; exact k4
    | 5, hq => cases hq; exact k5
    | 6, hq => cases hq; exact k6
    | 7, hq => cases hq; exact k7
    | 8, hq => cases hq; exact k8
    | 9, hq => cases hq; exact k9
    | k + 10, hq => simp [vcl] at hq
  · match k, hq with
    | 0, hq => cases hq; exact ⟨b0, d0⟩
    | 1, hq => cases hq; exact ⟨b1, d1⟩
    | 2, hq => cases hq; exact ⟨b2, d2⟩
    | 3, hq => cases hq; exact ⟨b3, d3⟩
    | 4, hq => cases hq; exact ⟨b4, d4⟩
    | 5, hq => cases hq; exact ⟨b5, d5⟩
    | k + 6, hq => simp [tyl] at hq
