/-! what changes a row: a swap -/
def zsx (z : Nat → Int) (x y : Nat) : Nat → Int := zst (zst z x (z (127 + 6 * y)) (z (128 + 6 * y))) y (z (127 + 6 * x)) (z (128 + 6 * x))
def zsw (z : Nat → Int) (x y : Nat) : Nat → Int := uI (zsx z x y) 187 (z 187 + 1)
theorem wf_187 {z : Nat → Int} (F : WF z) {v : Int} (hv : 0 ≤ v ∧ v ≤ 9) : WF (uI z 187 v) := by
  obtain ⟨g1, g2, g3, g4, g5, g6, g7, g8, g9, g10⟩ := F
  refine ⟨by rw [uI_n _ _ (by omega)]; exact g1, by rw [uI_n _ _ (by omega)]; exact g2, by rw [uI_s]; exact hv, fun w hw => by rw [uI_n _ _ (by omega)]; exact g4 w hw, fun w m hw hm => by rw [uI_n _ _ (by omega)]; exact g5 w m hw hm, fun d hd => ?_, fun d hd h2 => ?_, fun d e hd he hde h2 h3 h4 h5 => ?_, fun j hj => by rw [uI_n _ _ (by omega)]; exact g9 j hj, by rw [uI_n _ _ (by omega), uI_n _ _ (by omega)]; exact g10⟩
  · rw [uI_n _ _ (by omega), uI_n _ _ (by omega), uI_n _ _ (by omega), uI_n _ _ (by omega)]
    exact g6 d hd
  · rw [uI_n _ _ (by omega)] at h2
    have h := g7 d hd h2
    rw [uI_n z _ (by omega : 127 + 6 * d ≠ 187), uI_n z _ (by omega : 128 + 6 * d ≠ 187), uI_n z _ (by omega : 184 ≠ 187), uI_n z _ (by omega : 125 + 6 * d ≠ 187)]
    rcases h with h | ⟨p1, p2, p3, p4⟩
    · exact Or.inl h
    · exact Or.inr ⟨p1, p2, p3, by rw [uI_n _ _ (by omega)]; exact p4⟩
  · rw [uI_n _ _ (by omega)] at h2 h3 h4
    rw [uI_n _ _ (by omega), uI_n _ _ (by omega)] at h5
    rw [uI_n z _ (by omega : 128 + 6 * d ≠ 187), uI_n z _ (by omega : 125 + 6 * d ≠ 187), uI_n z _ (by omega : 128 + 6 * e ≠ 187), uI_n z _ (by omega : 125 + 6 * e ≠ 187)]
    exact g8 d e hd he hde h2 h3 h4 h5
section SWAPS
variable {h : HP} {a b p : Nat} {z : Nat → Int}
theorem swap_wf (F : WF z) {x y : Nat} (hx : x < 10) (h2 : (x : Int) < z 185) (hy : y < 10) (h3 : (y : Int) < z 185) (hxy : x ≠ y) (c1 : ¬ z (127 + 6 * x) = -1) (c2 : ¬ z (127 + 6 * y) = -1) (c4 : fitP z x y) (c5 : fitP z y x ∧ ¬ ovP z x y) : WF (zsx z x y) := by
  obtain ⟨⟨w1, w2⟩, ⟨n1, n2⟩, sw, -⟩ := id F
  have hWx := F.wall hx h2
  have hWy := F.wall hy h3
  have hDx := F.2.2.2.2.2.1 x hx
  have hDy := F.2.2.2.2.2.1 y hy
  have hSx := F.2.2.2.2.2.2.1 x hx h2
  have hSy := F.2.2.2.2.2.2.1 y hy h3
  have F1 : WF (zst z y (-1) (-1)) := wf_zst F hy h3 (Or.inl ⟨rfl, rfl⟩)
  have e185 : zst z y (-1) (-1) 185 = z 185 := zst_n _ _ _ _ (by omega) (by omega)
  have e184 : zst z y (-1) (-1) 184 = z 184 := zst_n _ _ _ _ (by omega) (by omega)
  have e125 : ∀ k : Nat, zst z y (-1) (-1) (125 + 6 * k) = z (125 + 6 * k) := fun k => zst_n _ _ _ _ (by omega) (by omega)
  have e127 : ∀ k : Nat, k ≠ y → zst z y (-1) (-1) (127 + 6 * k) = z (127 + 6 * k) := fun k hk => zst_n _ _ _ _ (by omega) (by omega)
  have e128 : ∀ k : Nat, k ≠ y → zst z y (-1) (-1) (128 + 6 * k) = z (128 + 6 * k) := fun k hk => zst_n _ _ _ _ (by omega) (by omega)
  have el : ∀ v : Nat, v < 4 → zst z y (-1) (-1) (31 * v) = z (31 * v) := fun v hv => zst_n _ _ _ _ (by omega) (by omega)
  have fr1 : frZ (zst z y (-1) (-1)) (z (127 + 6 * y)) (z (128 + 6 * y)) (z (125 + 6 * x)) x x = true := fr_mono F1 F e185.symm (fun k hk q => by
    obtain ⟨q1, q2, q3, q4, q5⟩ := q
    by_cases ky : k = y
    · rw [ky, zst_w] at q3
      omega
    · rw [e127 k ky] at q3
      rw [e128 k ky, e125] at q4
      rw [e128 k ky] at q5
      exact ⟨q1, ky, q3, q4, q5⟩) c4.2
  have F2 : WF (zst (zst z y (-1) (-1)) x (z (127 + 6 * y)) (z (128 + 6 * y))) := wf_zst F1 hx (by rw [e185]; exact h2) (Or.inr ⟨by omega, by rw [e184]; omega, by omega, by rw [e125, el _ (by omega)]; exact c4.1, by rw [e125]; exact fr1⟩)
  have f185 : zst (zst z y (-1) (-1)) x (z (127 + 6 * y)) (z (128 + 6 * y)) 185 = z 185 := by rw [zst_n _ _ _ _ (by omega) (by omega), e185]
  have f125 : ∀ k : Nat, zst (zst z y (-1) (-1)) x (z (127 + 6 * y)) (z (128 + 6 * y)) (125 + 6 * k) = z (125 + 6 * k) := fun k => by rw [zst_n _ _ _ _ (by omega) (by omega), e125]
  have fl : ∀ v : Nat, v < 4 → zst (zst z y (-1) (-1)) x (z (127 + 6 * y)) (z (128 + 6 * y)) (31 * v) = z (31 * v) := fun v hv => by rw [zst_n _ _ _ _ (by omega) (by omega), el v hv]
  have f127 : ∀ k : Nat, k ≠ x → k ≠ y → zst (zst z y (-1) (-1)) x (z (127 + 6 * y)) (z (128 + 6 * y)) (127 + 6 * k) = z (127 + 6 * k) := fun k k1 k2 => by rw [zst_n _ _ _ _ (by omega) (by omega), e127 k k2]
  have f128 : ∀ k : Nat, k ≠ x → k ≠ y → zst (zst z y (-1) (-1)) x (z (127 + 6 * y)) (z (128 + 6 * y)) (128 + 6 * k) = z (128 + 6 * k) := fun k k1 k2 => by rw [zst_n _ _ _ _ (by omega) (by omega), e128 k k2]
  have key : (z (128 + 6 * x) + z (125 + 6 * y) ≤ z (31 * (z (127 + 6 * x)).toNat) ∧ frZ (zst (zst z y (-1) (-1)) x (z (127 + 6 * y)) (z (128 + 6 * y))) (z (127 + 6 * x)) (z (128 + 6 * x)) (z (125 + 6 * y)) y y = true) ↔ (fitP z y x ∧ ¬ ovP z x y) := by
    constructor
    · rintro ⟨q1, q2⟩
      refine ⟨⟨q1, fr_mono F F2 f185 (fun k hk y1 => ?_) q2⟩, fun ov => ?_⟩
      · obtain ⟨y1, y2, y3, y4, y5⟩ := y1
        exact ⟨y1, y1, by rw [f127 k y2 y1]; exact y3, by rw [f128 k y2 y1, f125]; exact y4, by rw [f128 k y2 y1]; exact y5⟩
      · have := (frZ_is F2 _ _ _ _ _).mp q2 x (by rw [f185]; exact h2)
        rw [zst_w, zst_f, f125] at this
        exact this ⟨hxy, hxy, ov.1.symm, ov.2.2, ov.2.1⟩
    · rintro ⟨⟨q1, q2⟩, q3⟩
      refine ⟨q1, (frZ_is F2 _ _ _ _ _).mpr (fun k hk y1 => ?_)⟩
      obtain ⟨y1, -, y3, y4, y5⟩ := y1
      rw [f185] at hk
      by_cases kx : k = x
      · rw [kx, zst_w] at y3
        rw [kx, zst_f, f125] at y4
        rw [kx, zst_f] at y5
        exact q3 ⟨y3.symm, y5, y4⟩
      · rw [f127 k kx y1] at y3
        rw [f128 k kx y1, f125] at y4
        rw [f128 k kx y1] at y5
        exact (frZ_is F _ _ _ _ _).mp q2 k hk ⟨y1, kx, y3, y4, y5⟩
  have kk := key.mpr c5
  have f184 : zst (zst z y (-1) (-1)) x (z (127 + 6 * y)) (z (128 + 6 * y)) 184 = z 184 := by rw [zst_n _ _ _ _ (by omega) (by omega), e184]
  have F3 : WF (zst (zst (zst z y (-1) (-1)) x (z (127 + 6 * y)) (z (128 + 6 * y))) y (z (127 + 6 * x)) (z (128 + 6 * x))) := wf_zst F2 hy (by rw [f185]; exact h3) (Or.inr ⟨by omega, by rw [f184]; omega, by omega, by rw [f125, fl _ (by omega)]; exact kk.1, by rw [f125]; exact kk.2⟩)
  have e : zst (zst (zst z y (-1) (-1)) x (z (127 + 6 * y)) (z (128 + 6 * y))) y (z (127 + 6 * x)) (z (128 + 6 * x)) = zsx z x y := by
    funext k
    unfold zsx zst uI
    by_cases k1 : k = 128 + 6 * y
    · simp only [if_pos k1]
    · by_cases k2 : k = 127 + 6 * y
      · simp only [if_neg k1, if_pos k2]
      · simp only [if_neg k1, if_neg k2]
  rw [← e]
  exact F3
theorem rsnS_0 {x y : Nat} (c : rsnS z x y = 0) : ¬ z (127 + 6 * x) = -1 ∧ ¬ z (127 + 6 * y) = -1 ∧ z 187 < z 195 ∧ fitP z x y ∧ fitP z y x ∧ ¬ ovP z x y := by
  unfold rsnS at c
  by_cases c1 : z (127 + 6 * x) = -1
  · rw [if_pos c1] at c; omega
  · rw [if_neg c1] at c
    by_cases c2 : z (127 + 6 * y) = -1
    · rw [if_pos c2] at c; omega
    · rw [if_neg c2] at c
      by_cases c3 : z 187 < z 195
      · rw [if_pos c3] at c
        by_cases c4 : fitP z x y
        · rw [if_pos c4] at c
          by_cases c5 : fitP z y x ∧ ¬ ovP z x y
          · exact ⟨c1, c2, c3, c4, c5⟩
          · rw [if_neg c5] at c; omega
        · rw [if_neg c4] at c; omega
      · rw [if_neg c3] at c; omega
theorem rsnS_b (z : Nat → Int) (x y : Nat) : 0 ≤ rsnS z x y ∧ rsnS z x y ≤ 4 := by
  unfold rsnS
  split
  · omega
  · split
    · omega
    · split
      · split
        · split <;> omega
        · omega
      · omega
theorem zsw_wf (F : WF z) {x y : Nat} (hx : x < 10) (h2 : (x : Int) < z 185) (hy : y < 10) (h3 : (y : Int) < z 185) (hxy : x ≠ y) (c : rsnS z x y = 0) : WF (zsw z x y) := by
  obtain ⟨c1, c2, c3, c4, c5⟩ := rsnS_0 c
  obtain ⟨s0, s1, s2, s3, s4, s5⟩ := set_b F
  have := F.2.2.1
  exact wf_187 (swap_wf F hx h2 hy h3 hxy c1 c2 c4 c5) (by omega)
end SWAPS
