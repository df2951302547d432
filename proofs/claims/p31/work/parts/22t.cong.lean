/-! the share stays as it was where what it looks at stays -/
section CONG
variable {z z' : Nat → Int}
/-- what the share of dealers below n looks at; w0 is a wall where nobody stands -/
def Same (z z' : Nat → Int) (n w0 : Nat) : Prop := (∀ k : Nat, k < 124 → k ≠ 31 * w0 → z' k = z k) ∧ z' 191 = z 191 ∧ ∀ d : Nat, d < n → z' (125 + 6 * d) = z (125 + 6 * d) ∧ z' (126 + 6 * d) = z (126 + 6 * d) ∧ z' (127 + 6 * d) = z (127 + 6 * d) ∧ z' (128 + 6 * d) = z (128 + 6 * d) ∧ z (127 + 6 * d) ≠ w0
theorem fre_cong (F : WF z) {n w0 : Nat} (E : Same z z' n w0) {w : Nat} (hw : w < 4) (h0 : w ≠ w0) (T : Nat → Int) (m : Int) : fre z' T w m ↔ fre z T w m := by
  have el : z' (31 * w) = z (31 * w) := E.1 _ (by omega) (by omega)
  have hL := F.2.2.2.1 w hw
  constructor
  · rintro ⟨q1, q2, q3⟩
    rw [el] at q2
    rw [E.1 _ (by omega) (by omega)] at q3
    exact ⟨q1, q2, q3⟩
  · rintro ⟨q1, q2, q3⟩
    refine ⟨q1, by rw [el]; exact q2, ?_⟩
    rw [E.1 _ (by omega) (by omega)]
    exact q3
theorem near_cong (F : WF z) {n w0 : Nat} (E : Same z z' n w0) {d : Nat} (hd : d < n) (hd10 : d < 10) (h2 : (d : Int) < z 185) (hst : z (127 + 6 * d) ≠ -1) (T : Nat → Int) : nearZ z' T d = nearZ z T d := by
  obtain ⟨a1, a2, a3, a4, a5⟩ := E.2.2 d hd
  have hW := F.wall hd10 h2
  have hdst : ∀ m : Int, dst z' d m = dst z d m := fun m => by unfold dst; rw [a1, a4]
  have hf : ∀ m : Int, fre z' T (z (127 + 6 * d)).toNat m ↔ fre z T (z (127 + 6 * d)).toNat m := fun m => fre_cong F E (by omega) (by omega) T m
  have e : (fun r => IsNear z' T d r) = (fun r => IsNear z T d r) := by
    funext r
    apply propext
    unfold IsNear
    rw [a3, E.2.1]
    simp only [hdst]
    constructor
    · rintro (⟨q1, q2⟩ | ⟨q1, q2, q3⟩)
      · exact Or.inl ⟨q1, fun m hm => q2 m ((hf m).mpr hm)⟩
      · exact Or.inr ⟨(hf r).mp q1, q2, fun m hm => q3 m ((hf m).mpr hm)⟩
    · rintro (⟨q1, q2⟩ | ⟨q1, q2, q3⟩)
      · exact Or.inl ⟨q1, fun m hm => q2 m ((hf m).mp hm)⟩
      · exact Or.inr ⟨(hf r).mpr q1, q2, fun m hm => q3 m ((hf m).mp hm)⟩
  unfold nearZ
  rw [e]
theorem serve_cong (F : WF z) {n w0 : Nat} (E : Same z z' n w0) {d : Nat} (hd : d < n) (hd10 : d < 10) (h2 : (d : Int) < z 185) (hst : z (127 + 6 * d) ≠ -1) : ∀ (k : Nat) (s : Pw), serveZ z' d k s = serveZ z d k s := by
  obtain ⟨a1, a2, a3, a4, a5⟩ := E.2.2 d hd
  intro k
  induction k with
  | zero => intro s; rfl
  | succ k ih =>
    intro s
    have ep : plugZ z' d s = plugZ z d s := by
      unfold plugZ
      rw [near_cong F E hd hd10 h2 hst, a3]
    rw [serveZ, serveZ, near_cong F E hd hd10 h2 hst, ep, ih]
theorem share_cong (F : WF z) {n w0 : Nat} (E : Same z z' n w0) : ∀ d : Nat, d ≤ n → (d : Int) ≤ z 185 → shareTo z' d = shareTo z d := by
  obtain ⟨-, ⟨n1, n2⟩, -⟩ := id F
  intro d
  induction d with
  | zero => intro _ _; rfl
  | succ d ih =>
    intro hd h2
    obtain ⟨a1, a2, a3, a4, a5⟩ := E.2.2 d (by omega)
    rw [shareTo, shareTo, a3, a2, ih (by omega) (by omega)]
    by_cases c : z (127 + 6 * d) = -1
    · rw [if_pos c, if_pos c]
    · rw [if_neg c, if_neg c, serve_cong F E (by omega) (by omega) (by omega) c]
end CONG
