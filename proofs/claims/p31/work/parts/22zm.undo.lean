/-! the law's calls: undo, save, restore, the text's buffer -/
section CALLC
variable {h g : HP} {a b p : Nat} {z : Nat → Int} {B : Int}
theorem f03 : fld 180 3 = 194 := rfl
theorem f04 : fld 180 4 = 197 := rfl
theorem fA4 : fld 200 4 = 204 := rfl
theorem fA6 : fld 200 6 = 205 := rfl
theorem fA7 : fld 200 7 = 206 := rfl
theorem fA11 : fld 200 11 = 210 := rfl
theorem fL0 (k : Nat) : fld (fld 194 0) k = 160 + 10 * k := rfl
theorem fL1 : fld 194 1 = 196 := rfl
theorem knd6 {i : Nat} (h : BS i) : knd i = 6 := by
  unfold knd
  rw [if_pos h.1, if_pos h.2]
end CALLC
