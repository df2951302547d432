/-! the reference's reasons against a swap; what it does -/
section MSWAP
variable {h : HP} {a b p : Nat} {z : Nat → Int}
theorem fr_mono {z z1 : Nat → Int} (F : WF z) (F1 : WF z1) (e : z1 185 = z 185) {w f l : Int} {d e1 d2 e2 : Nat} (h : ∀ k : Nat, (k : Int) < z 185 → (k ≠ d ∧ k ≠ e1 ∧ z (127 + 6 * k) = w ∧ f < z (128 + 6 * k) + z (125 + 6 * k) ∧ z (128 + 6 * k) < f + l) → (k ≠ d2 ∧ k ≠ e2 ∧ z1 (127 + 6 * k) = w ∧ f < z1 (128 + 6 * k) + z1 (125 + 6 * k) ∧ z1 (128 + 6 * k) < f + l)) (q : frZ z1 w f l d2 e2 = true) : frZ z w f l d e1 = true :=
  (frZ_is F w f l d e1).mpr fun k hk y => (frZ_is F1 w f l d2 e2).mp q k (by rw [e]; exact hk) (h k hk y)
end MSWAP
