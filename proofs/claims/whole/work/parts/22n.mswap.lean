/-! the reference's reasons against a swap; what it does -/
section MSWAP
variable {h : HP} {a b p : Nat} {z : Nat → Int}
theorem RepM.eqz {z' : Nat → Int} (R : RepM h a z) (e : ∀ k : Nat, k < 196 → z k = z' k) : RepM h a z' := fun k hk => by rw [← e k hk]; exact R k hk
theorem fr_mono {z z1 : Nat → Int} (F : WF z) (F1 : WF z1) (e : z1 185 = z 185) {w f l : Int} {d e1 d2 e2 : Nat} (h : ∀ k : Nat, (k : Int) < z 185 → (k ≠ d ∧ k ≠ e1 ∧ z (127 + 6 * k) = w ∧ f < z (128 + 6 * k) + z (125 + 6 * k) ∧ z (128 + 6 * k) < f + l) → (k ≠ d2 ∧ k ≠ e2 ∧ z1 (127 + 6 * k) = w ∧ f < z1 (128 + 6 * k) + z1 (125 + 6 * k) ∧ z1 (128 + 6 * k) < f + l)) (q : frZ z1 w f l d2 e2 = true) : frZ z w f l d e1 = true :=
  (frZ_is F w f l d e1).mpr fun k hk y => (frZ_is F1 w f l d2 e2).mp q k (by rw [e]; exact hk) (h k hk y)
theorem m_swapR (R : RepM h a z) (F : WF z) {x y : Nat} (hx : x < 10) (h2 : (x : Int) < z 185) (hy : y < 10) (h3 : (y : Int) < z 185) (hxy : x ≠ y) : ∃ h' : HP, f_M_whyNoSwap h a (iI x) (iI y) = some (iI (rsnS z x y), h') ∧ RepM h' a z ∧ ∀ i, i ≠ a → h' i = h i := by
  obtain ⟨⟨w1, w2⟩, ⟨n1, n2⟩, sw, -⟩ := id F
  obtain ⟨s0, s1, s2, s3, s4, s5⟩ := set_b F
  have hWx := F.wall hx h2
  have hWy := F.wall hy h3
  have hDx := F.2.2.2.2.2.1 x hx
  have hDy := F.2.2.2.2.2.1 y hy
  have hSx := F.2.2.2.2.2.2.1 x hx h2
  have hSy := F.2.2.2.2.2.2.1 y hy h3
  unfold f_M_whyNoSwap rsnS
  rw [m_stands R F hx h2, Option.bind_some]
  by_cases c1 : z (127 + 6 * x) = -1
  · rw [if_pos c1, if_pos c1, if_pos rfl, lI1]
    exact ⟨h, rfl, R, fun _ _ => rfl⟩
  · rw [if_neg c1, if_neg c1, if_neg (by decide), m_stands R F hy h3, Option.bind_some]
    by_cases c2 : z (127 + 6 * y) = -1
    · rw [if_pos c2, if_pos c2, if_pos rfl, lI1]
      exact ⟨h, rfl, R, fun _ _ => rfl⟩
    · rw [if_neg c2, if_neg c2, if_neg (by decide), ib_187, ib_195, if_pos rfl, if_pos rfl, cl_187, cl_195, R.c187, R.c195, tLt (by omega) (by omega) (by omega) (by omega)]
      by_cases c3 : z 187 < z 195
      · have hLy := F.2.2.2.1 (z (127 + 6 * y)).toNat (by omega)
        have hLx := F.2.2.2.1 (z (127 + 6 * x)).toNat (by omega)
        rw [if_pos c3, if_pos c3, m_spot, m_spot, Option.bind_some, lI3, lI4, iI_add, ib_d3 hx, if_pos rfl, Option.bind_some, iI_add, ib_d4 hx, if_pos rfl, Option.bind_some, iI_add, ib_d3 hy, if_pos rfl, Option.bind_some, iI_add, ib_d4 hy, if_pos rfl, R.d3 hx, R.d4 hx, R.d3 hy, R.d4 hy, m_fits R F hx h2 hy ⟨by omega, by omega⟩ ⟨by omega, by omega⟩, Option.bind_some]
        by_cases c4 : fitP z x y
        · have c4' : z (128 + 6 * y) + z (125 + 6 * x) ≤ z (31 * (z (127 + 6 * y)).toNat) ∧ frZ z (z (127 + 6 * y)) (z (128 + 6 * y)) (z (125 + 6 * x)) x y = true := c4
          have F1 : WF (zst z y (-1) (-1)) := wf_zst F hy h3 (Or.inl ⟨rfl, rfl⟩)
          have e185 : zst z y (-1) (-1) 185 = z 185 := zst_n _ _ _ _ (by omega) (by omega)
          have e184 : zst z y (-1) (-1) 184 = z 184 := zst_n _ _ _ _ (by omega) (by omega)
          have e125 : ∀ k : Nat, zst z y (-1) (-1) (125 + 6 * k) = z (125 + 6 * k) := fun k => zst_n _ _ _ _ (by omega) (by omega)
          have e127 : ∀ k : Nat, k ≠ y → zst z y (-1) (-1) (127 + 6 * k) = z (127 + 6 * k) := fun k hk => zst_n _ _ _ _ (by omega) (by omega)
          have e128 : ∀ k : Nat, k ≠ y → zst z y (-1) (-1) (128 + 6 * k) = z (128 + 6 * k) := fun k hk => zst_n _ _ _ _ (by omega) (by omega)
          have el : ∀ v : Nat, v < 4 → zst z y (-1) (-1) (31 * v) = z (31 * v) := fun v hv => zst_n _ _ _ _ (by omega) (by omega)
          have fr1 : frZ (zst z y (-1) (-1)) (z (127 + 6 * y)) (z (128 + 6 * y)) (z (125 + 6 * x)) x x = true := fr_mono F1 F e185.symm (fun k hk q => by
            obtain ⟨q1, q2, q3, q4, q5⟩ := q
            by_cases ky : k = y
            · rw [ky, zst_w] at q3
              omega
            · rw [e127 k ky] at q3
              rw [e128 k ky, e125] at q4
              rw [e128 k ky] at q5
              exact ⟨q1, ky, q3, q4, q5⟩) c4.2
          have F2 : WF (zst (zst z y (-1) (-1)) x (z (127 + 6 * y)) (z (128 + 6 * y))) := wf_zst F1 hx (by rw [e185]; exact h2) (Or.inr ⟨by omega, by rw [e184]; omega, by omega, by rw [e125, el _ (by omega)]; exact c4.1, by rw [e125]; exact fr1⟩)
          have R2 := m_standR (m_standR R hy (-1) (-1)) hx (z (127 + 6 * y)) (z (128 + 6 * y))
          have f185 : zst (zst z y (-1) (-1)) x (z (127 + 6 * y)) (z (128 + 6 * y)) 185 = z 185 := by rw [zst_n _ _ _ _ (by omega) (by omega), e185]
          have f125 : ∀ k : Nat, zst (zst z y (-1) (-1)) x (z (127 + 6 * y)) (z (128 + 6 * y)) (125 + 6 * k) = z (125 + 6 * k) := fun k => by rw [zst_n _ _ _ _ (by omega) (by omega), e125]
          have fl : ∀ v : Nat, v < 4 → zst (zst z y (-1) (-1)) x (z (127 + 6 * y)) (z (128 + 6 * y)) (31 * v) = z (31 * v) := fun v hv => by rw [zst_n _ _ _ _ (by omega) (by omega), el v hv]
          have f127 : ∀ k : Nat, k ≠ x → k ≠ y → zst (zst z y (-1) (-1)) x (z (127 + 6 * y)) (z (128 + 6 * y)) (127 + 6 * k) = z (127 + 6 * k) := fun k k1 k2 => by rw [zst_n _ _ _ _ (by omega) (by omega), e127 k k2]
          have f128 : ∀ k : Nat, k ≠ x → k ≠ y → zst (zst z y (-1) (-1)) x (z (127 + 6 * y)) (z (128 + 6 * y)) (128 + 6 * k) = z (128 + 6 * k) := fun k k1 k2 => by rw [zst_n _ _ _ _ (by omega) (by omega), e128 k k2]
          have ff := m_fits R2 F2 hy (by rw [f185]; exact h3) hy (w := z (127 + 6 * x)) (f := z (128 + 6 * x)) ⟨by omega, by omega⟩ ⟨by omega, by omega⟩
          rw [f125, fl _ (by omega)] at ff
          have R4 := m_standR (m_standR R2 hx (z (127 + 6 * x)) (z (128 + 6 * x))) hy (z (127 + 6 * y)) (z (128 + 6 * y))
          have Rz : RepM _ a z := R4.eqz (fun k hk => by
            unfold zst uI
            by_cases k1 : k = 128 + 6 * y
            · rw [if_pos k1, k1]
            · rw [if_neg k1]
              by_cases k2 : k = 127 + 6 * y
              · rw [if_pos k2, k2]
              · rw [if_neg k2]
                by_cases k3 : k = 128 + 6 * x
                · rw [if_pos k3, k3]
                · rw [if_neg k3]
                  by_cases k4 : k = 127 + 6 * x
                  · rw [if_pos k4, k4]
                  · rw [if_neg k4, if_neg k3, if_neg k4, if_neg k1, if_neg k2])
          have key : (z (128 + 6 * x) + z (125 + 6 * y) ≤ z (31 * (z (127 + 6 * x)).toNat) ∧ frZ (zst (zst z y (-1) (-1)) x (z (127 + 6 * y)) (z (128 + 6 * y))) (z (127 + 6 * x)) (z (128 + 6 * x)) (z (125 + 6 * y)) y y = true) ↔ (fitP z y x ∧ ¬ ovP z x y) := by
            constructor
            · rintro ⟨q1, q2⟩
              refine ⟨⟨q1, fr_mono F F2 f185 (fun k hk y1 => ?_) q2⟩, fun ov => ?_⟩
              · obtain ⟨y1, y2, y3, y4, y5⟩ := y1
                exact ⟨y1, y1, by rw [f127 k y2 y1]; exact y3, by rw [f128 k y2 y1, f125]; exact y4, by rw [f128 k y2 y1]; exact y5⟩
              · have := (frZ_is F2 _ _ _ _ _).mp q2 x (by rw [f185]; exact h2)
                rw [zst_w, zst_f, f125] at this
                exact this ⟨hxy, hxy, ov.1.symm, ov.2.2, ov.2.1⟩
            · rintro ⟨⟨q1, q2⟩, q3⟩
              refine ⟨q1, (frZ_is F2 _ _ _ _ _).mpr (fun k hk y1 => ?_)⟩
              obtain ⟨y1, -, y3, y4, y5⟩ := y1
              rw [f185] at hk
              by_cases kx : k = x
              · rw [kx, zst_w] at y3
                rw [kx, zst_f, f125] at y4
                rw [kx, zst_f] at y5
                exact q3 ⟨y3.symm, y5, y4⟩
              · rw [f127 k kx y1] at y3
                rw [f128 k kx y1, f125] at y4
                rw [f128 k kx y1] at y5
                exact (frZ_is F _ _ _ _ _).mp q2 k hk ⟨y1, kx, y3, y4, y5⟩
          have fr4 := fun i (hi : i ≠ a) => show _ = h i from by
            exact (st_fr (a := a) (h := _) y (z (127 + 6 * y)) (z (128 + 6 * y)) i hi).trans ((st_fr (a := a) (h := _) x (z (127 + 6 * x)) (z (128 + 6 * x)) i hi).trans ((st_fr (a := a) (h := _) x (z (127 + 6 * y)) (z (128 + 6 * y)) i hi).trans (st_fr (a := a) (h := h) y (-1) (-1) i hi)))
          rw [if_pos c4', if_pos c4, if_neg (by decide), lI1, iI_neg, m_stand R hy, Option.bind_some, m_stand (m_standR R hy (-1) (-1)) hx, Option.bind_some, ff, Option.bind_some, m_stand R2 hx, Option.bind_some, m_stand (m_standR R2 hx (z (127 + 6 * x)) (z (128 + 6 * x))) hy, Option.bind_some]
          by_cases c5 : fitP z y x ∧ ¬ ovP z x y
          · rw [if_pos (key.mpr c5), if_pos c5, if_neg (by decide), lI0]
            exact ⟨_, rfl, Rz, fr4⟩
          · rw [if_neg (fun q => c5 (key.mp q)), if_neg c5, if_pos rfl]
            exact ⟨_, rfl, Rz, fr4⟩
        · have c4' : ¬ (z (128 + 6 * y) + z (125 + 6 * x) ≤ z (31 * (z (127 + 6 * y)).toNat) ∧ frZ z (z (127 + 6 * y)) (z (128 + 6 * y)) (z (125 + 6 * x)) x y = true) := c4
          rw [if_neg c4', if_neg c4, if_pos rfl]
          exact ⟨h, rfl, R, fun _ _ => rfl⟩
      · rw [if_neg c3, if_neg c3, lI2]
        exact ⟨h, rfl, R, fun _ _ => rfl⟩
end MSWAP
