/-! what changes a row: a dealer more (the reference) -/
def zdl (z : Nat → Int) (g f w : Int) : Nat → Int := uI (uI (uI (uI (uI (uI z (124 + 6 * (z 185).toNat) g) (125 + 6 * (z 185).toNat) f) (126 + 6 * (z 185).toNat) w) (127 + 6 * (z 185).toNat) (-1)) (128 + 6 * (z 185).toNat) (-1)) 185 (z 185 + 1)
section DEALERS
variable {h : HP} {a b p : Nat} {z : Nat → Int}
theorem zdl_n (z : Nat → Int) (g f w : Int) {k : Nat} (h1 : k ≠ 185) (h2 : k < 124 + 6 * (z 185).toNat ∨ 129 + 6 * (z 185).toNat ≤ k) : zdl z g f w k = z k := by
  unfold zdl
  rw [uI_n _ _ h1, uI_n _ _ (by omega), uI_n _ _ (by omega), uI_n _ _ (by omega), uI_n _ _ (by omega), uI_n _ _ (by omega)]
theorem zdl_185 (z : Nat → Int) (g f w : Int) : zdl z g f w 185 = z 185 + 1 := uI_s _ _ _
theorem wf_dealer (F : WF z) (h10 : z 185 < 10) {g f w : Int} (hg : 0 ≤ g ∧ g ≤ 5) (hf : 1 ≤ f ∧ f ≤ 9) (hw : 0 ≤ w ∧ w ≤ 3) : WF (zdl z g f w) := by
  obtain ⟨g1, g2, g3, g4, g5, g6, g7, g8, g9, g10⟩ := id F
  have n : ∀ k : Nat, k ≠ 185 → (k < 124 + 6 * (z 185).toNat ∨ 129 + 6 * (z 185).toNat ≤ k) → zdl z g f w k = z k := fun k h1 h2 => zdl_n z g f w h1 h2
  have e4 : zdl z g f w (124 + 6 * (z 185).toNat) = g := by unfold zdl; rw [uI_n _ _ (by omega), uI_n _ _ (by omega), uI_n _ _ (by omega), uI_n _ _ (by omega), uI_n _ _ (by omega), uI_s]
  have e5 : zdl z g f w (125 + 6 * (z 185).toNat) = f := by unfold zdl; rw [uI_n _ _ (by omega), uI_n _ _ (by omega), uI_n _ _ (by omega), uI_n _ _ (by omega), uI_s]
  have e6 : zdl z g f w (126 + 6 * (z 185).toNat) = w := by unfold zdl; rw [uI_n _ _ (by omega), uI_n _ _ (by omega), uI_n _ _ (by omega), uI_s]
  have e7 : zdl z g f w (127 + 6 * (z 185).toNat) = -1 := by unfold zdl; rw [uI_n _ _ (by omega), uI_n _ _ (by omega), uI_s]
  have e8 : zdl z g f w (128 + 6 * (z 185).toNat) = -1 := by unfold zdl; rw [uI_n _ _ (by omega), uI_s]
  have e185 := zdl_185 z g f w
  refine ⟨by rw [n _ (by omega) (by omega)]; exact g1, by rw [e185]; omega, by rw [n _ (by omega) (by omega)]; exact g3, fun e he => by rw [n _ (by omega) (by omega)]; exact g4 e he, fun e m he hm => by rw [n _ (by omega) (by omega)]; exact g5 e m he hm, fun d hd => ?_, fun d hd h2 => ?_, fun d e hd he hde h2 h3 h4 h5 => ?_, fun j hj => by rw [n _ (by omega) (by omega)]; exact g9 j hj, by rw [n _ (by omega) (by omega), n _ (by omega) (by omega)]; exact g10⟩
  · by_cases q : d = (z 185).toNat
    · rw [q, e4, e5, e6]
      omega
    · have := g6 d hd
      rw [n (124 + 6 * d) (by omega) (by omega), n (125 + 6 * d) (by omega) (by omega), n (126 + 6 * d) (by omega) (by omega), e185]
      exact ⟨this.1, fun h => this.2.1 (by omega), this.2.2⟩
  · by_cases q : d = (z 185).toNat
    · rw [q, e7, e8]
      exact Or.inl ⟨rfl, rfl⟩
    · rw [e185] at h2
      rw [n (127 + 6 * d) (by omega) (by omega), n (128 + 6 * d) (by omega) (by omega), n 184 (by omega) (by omega), n (125 + 6 * d) (by omega) (by omega)]
      rcases g7 d hd (by omega) with y | ⟨p1, p2, p3, p4⟩
      · exact Or.inl y
      · exact Or.inr ⟨p1, p2, p3, by rw [n _ (by omega) (by omega)]; exact p4⟩
  · rw [e185] at h2 h3
    by_cases q : d = (z 185).toNat
    · rw [q, e7] at h4
      exact absurd rfl h4
    · rw [n (127 + 6 * d) (by omega) (by omega)] at h4 h5
      by_cases q2 : e = (z 185).toNat
      · rw [q2, e7] at h5
        omega
      · rw [n (127 + 6 * e) (by omega) (by omega)] at h5
        rw [n (128 + 6 * d) (by omega) (by omega), n (125 + 6 * d) (by omega) (by omega), n (128 + 6 * e) (by omega) (by omega), n (125 + 6 * e) (by omega) (by omega)]
        exact g8 d e hd he hde (by omega) (by omega) h4 h5
theorem share_dealer (F : WF z) (h10 : z 185 < 10) (g f w : Int) : shareZ (zdl z g f w) = shareZ z := by
  obtain ⟨⟨w1, w2⟩, ⟨n1, n2⟩, -, -, -, -, g7, -⟩ := id F
  have n : ∀ k : Nat, k ≠ 185 → (k < 124 + 6 * (z 185).toNat ∨ 129 + 6 * (z 185).toNat ≤ k) → zdl z g f w k = z k := fun k h1 h2 => zdl_n z g f w h1 h2
  have e7 : zdl z g f w (127 + 6 * (z 185).toNat) = -1 := by unfold zdl; rw [uI_n _ _ (by omega), uI_n _ _ (by omega), uI_s]
  have E : Same z (zdl z g f w) (z 185).toNat 4 := by
    refine ⟨fun k h1 h2 => n _ (by omega) (by omega), n _ (by omega) (by omega), fun d hd => ⟨n _ (by omega) (by omega), n _ (by omega) (by omega), n _ (by omega) (by omega), n _ (by omega) (by omega), ?_⟩⟩
    rcases g7 d (by omega) (by omega) with q | q <;> omega
  unfold shareZ
  rw [zdl_185, show (z 185 + 1).toNat = (z 185).toNat + 1 by omega, shareTo, if_pos e7]
  exact share_cong F E _ (Nat.le_refl _) (by omega)
end DEALERS
