/-! the law's calls: questions -/
section CALLQ
variable {h g : HP} {a b p : Nat} {z : Nat → Int} {B : Int}
theorem i32 (x : Int32) : ∃ v : Int, InR v ∧ x = iI v := ⟨x.toInt, iI_rng x, iI_of x⟩
theorem f00 : fld (fld 180 0) 0 = 0 := rfl
theorem f01 : fld (fld 180 0) 1 = 184 := rfl
theorem f0 : fld 180 0 = 182 := rfl
theorem in32 (g : HP) {v l u : Int} {L U : Int32} (hv : InR v) (hl : InR l) (hu : InR u) (eL : L = iI l) (eU : U = iI u) : f_F_inRange g (iI v) L U = some (if l ≤ v ∧ v ≤ u then 1 else 0) := by
  rw [eL, eU]
  exact inRange hv hl hu
end CALLQ
