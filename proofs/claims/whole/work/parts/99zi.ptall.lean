/-! the pure side: all calls, the start -/
theorem pt_all (j : Nat) (hj : j < 512) : PT_all (RelJ j) (RelJ (j + 1)) := ⟨pt_put j, pt_word j, pt_set j, pt_register j, pt_device j, pt_tape j, pt_run j hj, pt_why j, pt_printed j, pt_tear j, pt_reset j, pt_feed j, pt_end j, pt_assemble j, pt_fault j, pt_label j, pt_tell j, pt_told j⟩
/-- the start of the class, of the reference -/
def s00 : SS := (fun k => if k = 25 then 1 else 0, fun _ _ => 0, fun _ => 0, fun _ _ => 0)
def t00 : SS := (fun _ => 0, fun _ _ => 0, fun _ => 0, fun _ _ => 0)
theorem w16_0 : W16 (0 : Int32) := ⟨0, by omega, rfl⟩
theorem bz_0' : bz (0 : Int32) := Or.inl rfl
theorem rel_0 : RelJ 0 s00 t00 := by
  have d0 : RDv 0 0 0 0 0 0 0 0 := ⟨rfl, w16_0, rfl, bz_0', rfl, bz_0', fun h => absurd rfl h⟩
  refine ⟨⟨rfl, fun _ => w16_0, rfl, fun _ => w16_0⟩, ⟨rfl, bz_0', rfl, w16_0, rfl, ⟨0, by omega, rfl⟩, rfl, bz_0', rfl, rfl⟩, ⟨rfl, 0, by omega, rfl⟩, ⟨rfl, bz_0'⟩, rfl, ⟨d0, d0, d0⟩, ⟨0, 0, by omega, by omega, rfl, rfl, rfl, fun i hi => absurd hi (by omega)⟩, ⟨0, by omega, rfl, rfl, rfl⟩, ⟨0, by omega, rfl, rfl, fun i hi => absurd hi (by omega)⟩, ⟨rfl, rfl⟩, Or.inl ⟨rfl, rfl, 0, by omega, rfl, rfl, fun i hi => absurd hi (by omega)⟩, ⟨0, by omega, rfl, rfl, fun i hi => absurd hi (by omega)⟩⟩
