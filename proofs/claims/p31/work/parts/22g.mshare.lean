/-! share: the reference -/
def MS (a : Nat) : Prop := a = 201 ∨ a = 202 ∨ a = 203
section MSHARE
variable {a : Nat} {z : Nat → Int}
end MSHARE
