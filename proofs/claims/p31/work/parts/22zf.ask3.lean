/-! the reference's sums that share first -/
section ASK3
variable {h g : HP} {a b p : Nat} {z : Nat → Int} {B : Int}
theorem fA1 : fld 200 1 = 201 := rfl
theorem fA2 : fld 200 2 = 202 := rfl
theorem fA3 : fld 200 3 = 203 := rfl
theorem fA8 : fld 200 8 = 207 := rfl
theorem fA9 : fld 200 9 = 208 := rfl
theorem fA10 : fld 200 10 = 209 := rfl
noncomputable def sdZ (z : Nat → Int) (x : Int) : Int := if x = 0 then hdtZ z else if x = 1 then lktZ z else rvtZ z
end ASK3
