/-! the law's calls: save, restore, the text's buffer -/
section CALLD
variable {h g : HP} {a b p : Nat} {z : Nat → Int} {B : Int}
theorem bss {s : Nat} (hs : s < 2) : BS (160 + 10 * s) := ⟨by omega, by omega⟩
theorem no_own : ∀ i, ¬ i < 10 → ¬ (185 ≤ i ∧ i ≤ 187) → ¬ own 0 184 i := fun i n1 n2 q => by unfold own at q; omega
end CALLD
