/-! the reference's questions about pitches, its sums and rents -/
section MFAIR
variable {h : HP} {a : Nat} {z : Nat → Int}
theorem nbr_irr (F : WF z) {d : Nat} (hd : d < 10) (h2 : (d : Int) < z 185) : ¬ nbr z d d := fun q => by
  have hD := (F.2.2.2.2.2.1 d hd).2.1 h2
  rcases q.2.2 with h | h <;> omega
end MFAIR
