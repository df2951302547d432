/-! the law's calls: place, leave, swap -/
section CALLB
variable {h g : HP} {a b p : Nat} {z : Nat → Int} {B : Int}
theorem rsnP_b (z : Nat → Int) (d : Nat) (w f : Int) : 0 ≤ rsnP z d w f ∧ rsnP z d w f ≤ 4 := by
  unfold rsnP
  split
  · split
    · split <;> omega
    · omega
  · omega
theorem rsnP_wf (F : WF z) {d : Nat} (hd : d < 10) (h2 : (d : Int) < z 185) {w f : Int} (hw : 0 ≤ w ∧ w < z 184) (hf : 0 ≤ f) (c : rsnP z d w f = 0) : WF (zst z d w f) := by
  refine wf_zst F hd h2 (Or.inr ⟨hw.1, hw.2, hf, ?_⟩)
  unfold rsnP at c
  split at c
  · split at c
    · rename_i c2
      split at c
      · rename_i c3
        exact ⟨c2, c3⟩
      · omega
    · omega
  · omega
end CALLB
