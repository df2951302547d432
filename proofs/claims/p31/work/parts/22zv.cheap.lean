/-! the law's calls: cheapest -/
section CHEAP
variable {h g : HP} {a b p : Nat} {z u : Nat → Int} {B : Int}
theorem c_ch45 (F : WF z) {d : Nat} (hd : d < 10) (h2 : (d : Int) < z 185) {k : Int} (hk : k = 0 ∨ k = 1) : ∀ (n w fu : Nat) (s : Int × Int) (h : HP) (y : Nat → Int), (w : Int) + n = z 184 → n < fu → okC s → RepS h 0 z → RepA h 183 10 188 y → zst y d (-1) (-1) = zst z d (-1) (-1) → ∃ h', f_F_cheapest_45 fu 180 (iI d) (iI k) (iI s.1) (iI s.2) (iI w) h = some (.inl (some (.int (iI (if k = 0 then (chO (zst z d (-1) (-1)) d n w s).1 else (chO (zst z d (-1) (-1)) d n w s).2)))), h') ∧ (∀ i, ¬ own 10 188 i → h' i = h i) := by
  obtain ⟨⟨w1, w2⟩, ⟨n1, n2⟩, -⟩ := id F
  intro n
  induction n with
  | zero =>
    intro w fu s h y hw hfu hs R RA ez
    obtain ⟨fu, rfl⟩ : ∃ k, fu = k + 1 := ⟨fu - 1, by omega⟩
    refine ⟨h, ?_, fun _ _ => rfl⟩
    rw [f_F_cheapest_45, f00, R.nw, tLe (by omega) (by omega) (by omega) (by omega), if_pos (by omega), lI0, tEq (by omega) (by omega) (by omega) (by omega)]
    by_cases c : k = 0
    · rw [if_pos c, if_pos c]; rfl
    · rw [if_neg c, if_neg c]; rfl
  | succ n ih =>
    intro w fu s h y hw hfu hs R RA ez
    obtain ⟨fu, rfl⟩ : ∃ k, fu = k + 1 := ⟨fu - 1, by omega⟩
    have hL := F.2.2.2.1 w (by omega)
    have eN : ((w : Nat) : Int).toNat = w := by omega
    have uL : zst z d (-1) (-1) (31 * w) = z (31 * w) := zst_n _ _ _ _ (by omega) (by omega)
    obtain ⟨h1, y1, k1, k2, k3, k4, k5, k6⟩ := c_ch63 F (f_F_cheapest_45 fu) hd h2 (w := w) (by omega) (iI k) (z (31 * w)).toNat 0 4096 s h y (by omega) (by omega) (by omega) hs R RA ez
    obtain ⟨h', q1, q2⟩ := ih (w + 1) fu _ h1 y1 (by omega) (by omega) k2 k3 k4 k5
    refine ⟨h', ?_, fun i hi => by rw [q2 i hi, k6 i hi]⟩
    rw [f_F_cheapest_45, f00, R.nw, tLe (by omega) (by omega) (by omega) (by omega), if_neg (by omega), lI0, k1]
    show _ = some (Sum.inl (some (Value.int (iI (if k = 0 then (chO (zst z d (-1) (-1)) d n ((w : Int) + 1) (chI (zst z d (-1) (-1)) d w (zst z d (-1) (-1) (31 * (w : Int).toNat)).toNat 0 s)).1 else (chO (zst z d (-1) (-1)) d n ((w : Int) + 1) (chI (zst z d (-1) (-1)) d w (zst z d (-1) (-1) (31 * (w : Int).toNat)).toNat 0 s)).2)))), h')
    rw [eN, uL, show (w : Int) + 1 = ((w + 1 : Nat) : Int) by omega]
    exact q1
end CHEAP
