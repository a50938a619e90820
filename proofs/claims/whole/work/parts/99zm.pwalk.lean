/-! the start: the walk to the loop -/
theorem p_set {D : va_G} {cl : List vw_C} {ws : va_W} {H : Heap} {k x n : Nat} {c : ClassId} {f g : Nat → Option Nat} (h : va_P D cl (ws.set k (x, .inl (c, n, .inr (.inr (.inr (.inr f)))))) H) (hk : ws[k]? = some (x, .inl (c, n, .inr (.inr (.inr (.inr g)))))) (e : ∀ j, j < n → f j = g j) : va_P D cl ws H := by
  have hl : k < ws.length := (List.getElem?_eq_some_iff.mp hk).1
  intro i q hi
  by_cases c0 : i = k
  · subst c0
    rw [hk] at hi
    cases hi
    have h1 := h i (x, .inl (c, n, .inr (.inr (.inr (.inr f))))) (by rw [List.getElem?_set, if_pos rfl, if_pos hl])
    have e' : vp_cell c (n, .inr (.inr (.inr (.inr f)))) = vp_cell c (n, .inr (.inr (.inr (.inr g)))) := by
      rw [vp_cell_q, vp_cell_q]
      unfold arrV
      congr 1
      congr 1
      funext j
      show va_rf (f j.val) = va_rf (g j.val)
      rw [e j.val j.isLt]
    show H[x]? = some (vp_cell c (n, .inr (.inr (.inr (.inr g)))))
    rw [← e']
    exact h1
  · exact h i q (by rw [List.getElem?_set, if_neg (fun z => c0 z.symm)]; exact hi)
theorem d_set {A : Nat → Prop} {ws : va_W} {k x : Nat} {y z : va_E} (h : va_D A (ws.set k (x, y))) (hk : ws[k]? = some (x, z)) : va_D A ws := by
  have hl : k < ws.length := (List.getElem?_eq_some_iff.mp hk).1
  have key : ∀ (i : Nat) (q : Nat × va_E), ws[i]? = some q → ∃ q' : Nat × va_E, (ws.set k (x, y))[i]? = some q' ∧ q'.1 = q.1 := by
    intro i q hi
    by_cases c0 : i = k
    · subst c0
      rw [hk] at hi
      cases hi
      exact ⟨(x, y), by rw [List.getElem?_set, if_pos rfl, if_pos hl], rfl⟩
    · exact ⟨q, by rw [List.getElem?_set, if_neg (fun z => c0 z.symm)]; exact hi, rfl⟩
  refine ⟨fun i j p q hi hj e => ?_, fun i q hi => ?_⟩
  · obtain ⟨p', p1, p2⟩ := key i p hi
    obtain ⟨q', q1, q2⟩ := key j q hj
    exact h.1 i j p' q' p1 q1 (by rw [p2, q2]; exact e)
  · obtain ⟨q', q1, q2⟩ := key i q hi
    rw [← q2]
    exact h.2 i q' q1
theorem gwt {w : Cond} (h : w ∈ tables_1) (g : goodWord w = true := by rfl) : w ∈ GW := gw_t h g
set_option maxHeartbeats 4000000 in
set_option maxRecDepth 100000 in
theorem world_0 {D : va_G} {cA : Nat → ClassId} {h0 r0 o : Nat} {qN qR : Nat → Nat} {X X1 : (Nat → Prop) → State → Prop} {A : Nat → Prop} {s : State} {H : Heap} {locs : List Loc} (hX : X1 A s) (hw : CX D vcl (tyl cA) ((([] ++ w1_N_init cA h0 qN) ++ w1_R_init cA r0 qR) ++ [(o, .inl (cA 1, 1, .inr (.inl (fun _ => 0))))]) X A s H locs) : CX D vcl (tyl cA) (wR cA (fun k => ([r0, qR 0, qR 1, qR 2, qR 3, qR 4, qR 5, qR 6, qR 7, qR 8, qR 9, qR 10, qR 11, qR 12, qR 13, qR 14, qR 15, qR 16, qR 17] : List Nat).getD k 0) t00 ++ ([oc cA o (fun _ => 0)] ++ wC cA (fun k => ([h0, qN 0, qN 1, qN 2, qN 3, qN 4, qN 5, qN 6, qN 8, qN 7, qN 9, qN 10, qN 11, qN 12, qN 13, qN 14, qN 15, qN 16, qN 17, qN 18, qN 19, qN 20, qN 21, qN 22, qN 23] : List Nat).getD k 0) s00)) X1 A s H locs := by
  obtain ⟨hK, hP, hD, hS, hA, _⟩ := hw
  have hP1 : va_P D vcl ((wR cA (fun k => ([r0, qR 0, qR 1, qR 2, qR 3, qR 4, qR 5, qR 6, qR 7, qR 8, qR 9, qR 10, qR 11, qR 12, qR 13, qR 14, qR 15, qR 16, qR 17] : List Nat).getD k 0) t00 ++ ([oc cA o (fun _ => 0)] ++ wC cA (fun k => ([h0, qN 0, qN 1, qN 2, qN 3, qN 4, qN 5, qN 6, qN 8, qN 7, qN 9, qN 10, qN 11, qN 12, qN 13, qN 14, qN 15, qN 16, qN 17, qN 18, qN 19, qN 20, qN 21, qN 22, qN 23] : List Nat).getD k 0) s00)).set 29 (qN 7, .inl (cA 5, 3, .inr (.inr (.inr (.inr (va_up (va_up (va_up (fun _ => none) (0 : Int32).toNatClampNeg (some (qN 3))) (1 : Int32).toNatClampNeg (some (qN 5))) (2 : Int32).toNatClampNeg (some (qN 8))))))))) H := hP.sub [25, 26, 27, 28, 29, 30, 31, 32, 33, 34, 35, 36, 37, 38, 39, 40, 41, 42, 43, 44, 0, 1, 2, 3, 4, 5, 6, 7, 9, 8, 10, 11, 12, 13, 14, 15, 16, 17, 18, 19, 20, 21, 22, 23, 24] rfl
  have hD1 : va_D A ((wR cA (fun k => ([r0, qR 0, qR 1, qR 2, qR 3, qR 4, qR 5, qR 6, qR 7, qR 8, qR 9, qR 10, qR 11, qR 12, qR 13, qR 14, qR 15, qR 16, qR 17] : List Nat).getD k 0) t00 ++ ([oc cA o (fun _ => 0)] ++ wC cA (fun k => ([h0, qN 0, qN 1, qN 2, qN 3, qN 4, qN 5, qN 6, qN 8, qN 7, qN 9, qN 10, qN 11, qN 12, qN 13, qN 14, qN 15, qN 16, qN 17, qN 18, qN 19, qN 20, qN 21, qN 22, qN 23] : List Nat).getD k 0) s00)).set 29 (qN 7, .inl (cA 5, 3, .inr (.inr (.inr (.inr (va_up (va_up (va_up (fun _ => none) (0 : Int32).toNatClampNeg (some (qN 3))) (1 : Int32).toNatClampNeg (some (qN 5))) (2 : Int32).toNatClampNeg (some (qN 8))))))))) := hD.sub [25, 26, 27, 28, 29, 30, 31, 32, 33, 34, 35, 36, 37, 38, 39, 40, 41, 42, 43, 44, 0, 1, 2, 3, 4, 5, 6, 7, 9, 8, 10, 11, 12, 13, 14, 15, 16, 17, 18, 19, 20, 21, 22, 23, 24] (by decide) rfl
  refine ⟨hK, p_set hP1 rfl (fun j hj => ?_), d_set hD1 rfl, hS, hA, hX⟩
  rcases (by omega : j = 0 ∨ j = 1 ∨ j = 2) with z | z | z <;> subst z <;> rfl
