/-! the law's calls: runScript -/
section SCRIPT
variable {h g : HP} {a b p : Nat} {z u : Nat → Int} {B : Int}
theorem i64_t {s : Int} (h1 : -9223372036854775808 ≤ s) (h2 : s < 9223372036854775808) : (i64 s).toInt = s := Int64.toInt_ofInt_of_le h1 h2
theorem i64_of (x : Int64) : x = i64 x.toInt := (Int64.ofInt_toInt x).symm
theorem i64_div {x m : Int} (h1 : 0 ≤ x) (h2 : x < 9223372036854775808) (h3 : 0 < m) (h4 : m < 9223372036854775808) : i64 x / i64 m = i64 (x / m) := by
  apply Int64.toInt_inj.mp
  have hn : i64 m ≠ -1 := fun q => by
    have := congrArg Int64.toInt q
    rw [i64_t (by omega) h4] at this
    have e : (-1 : Int64).toInt = -1 := by decide
    omega
  have hd : 0 ≤ x / m := Int.ediv_nonneg h1 (by omega)
  have hd2 : x / m ≤ x := Int.ediv_le_self m h1
  rw [Int64.toInt_div_of_ne_right _ _ hn, i64_t (by omega) h2, i64_t (by omega) h4, i64_t (by omega) (by omega), Int.tdiv_eq_ediv_of_nonneg h1]
theorem i64_mod {x m : Int} (h1 : 0 ≤ x) (h2 : x < 9223372036854775808) (h3 : 0 < m) (h4 : m < 9223372036854775808) : i64 x - i64 x / i64 m * i64 m = i64 (x % m) := by
  rw [i64_div h1 h2 h3 h4]
  unfold i64
  rw [← Int64.ofInt_mul, ← Int64.ofInt_sub]
  congr 1
  have := Int.emod_add_mul_ediv x m
  rw [Int.mul_comm m] at this
  omega
theorem i64_32 (s : Int) : (i64 s).toInt32 = iI s := Int64.toInt32_ofInt
theorem l64h : (100000 : Int64) = i64 100000 := by decide
theorem l6h0 : ¬ (100000 : Int64) = 0 := by decide
theorem lg0 (s : Int) (h1 : -9223372036854775808 ≤ s) (h2 : s < 9223372036854775808) : lg_cmp (i64 s) 0 < 0 ↔ s < 0 := by
  rw [lg_cmp_lt, Int64.lt_iff_toInt_lt, i64_t h1 h2]
  exact Iff.rfl
theorem lg00 (s : Int) (h1 : -9223372036854775808 ≤ s) (h2 : s < 9223372036854775808) : lg_cmp (i64 s) 0 = 0 ↔ s = 0 := by
  have e0 : (0 : Int64).toInt = 0 := by decide
  unfold lg_cmp
  constructor
  · intro q
    split at q
    · exact absurd q (by decide)
    · split at q
      · rename_i c
        have := congrArg Int64.toInt c
        rw [i64_t h1 h2, e0] at this
        exact this
      · exact absurd q (by decide)
  · intro q
    rw [q]
    rfl
theorem p5_b (n : Nat) (hn : n ≤ 3) : 0 < p5 n ∧ p5 n ≤ 1000000000000000 := by
  rcases (by omega : n = 0 ∨ n = 1 ∨ n = 2 ∨ n = 3) with rfl | rfl | rfl | rfl <;> exact ⟨by decide, by decide⟩
theorem p5_t (n : Nat) (hn : n ≤ 3) : t10 (5 * n) = p5 n := by
  rcases (by omega : n = 0 ∨ n = 1 ∨ n = 2 ∨ n = 3) with rfl | rfl | rfl | rfl <;> decide
theorem f05 : fld 180 5 = 181 := rfl
theorem c_split1 : ∀ (m : Nat) (s : Int) (fu : Nat) (h : HP), m ≤ 3 → m < fu → 0 ≤ s → s < 9223372036854775808 → ∃ h', f_F_splitScript_8 fu 180 (i64 s) (iI ((m : Int) - 1)) h = some (i64 (s / p5 m), h') ∧ (∀ i, i ≠ 181 → h' i = h i) ∧ (∀ k, m ≤ k → h' 181 k = h 181 k) ∧ ∀ k, k < m → h' 181 k = iI (s / p5 (m - 1 - k) % 100000) := by
  intro m
  induction m with
  | zero =>
    intro s fu h hm hfu h0 h1
    obtain ⟨fu, rfl⟩ : ∃ k, fu = k + 1 := ⟨fu - 1, by omega⟩
    refine ⟨h, ?_, fun _ _ => rfl, fun _ _ => rfl, fun k hk => absurd hk (by omega)⟩
    rw [f_F_splitScript_8, lI0, tLt (by omega) (by omega) (by omega) (by omega), if_pos (by omega), p5, Int.ediv_one]
  | succ m ih =>
    intro s fu h hm hfu h0 h1
    obtain ⟨fu, rfl⟩ : ∃ k, fu = k + 1 := ⟨fu - 1, by omega⟩
    have e1 : (iI (((m + 1 : Nat) : Int) - 1)).toNatClampNeg = m := by rw [iI_cl (by omega) (by omega)]; omega
    have hp := p5_b m (by omega)
    obtain ⟨h', g1, g2, g3, g4⟩ := ih (s / 100000) fu (hset h 181 m (iI (s % 100000))) (by omega) (by omega) (by omega) (by omega)
    refine ⟨h', ?_, fun i hi => by rw [g2 i hi, hset_n _ _ _ hi], fun k hk => by rw [g3 k (by omega), hset_s, upd_n _ _ (by omega)], fun k hk => ?_⟩
    · rw [f_F_splitScript_8, lI0, tLt (by omega) (by omega) (by omega) (by omega), if_neg (by omega), lI3, tLe (by omega) (by omega) (by omega) (by omega), if_neg (by omega), if_pos l6h0, iI_ib (by omega) (by omega) (by omega), if_pos rfl, e1, l64h, i64_mod h0 h1 (by omega) (by omega), i64_32, f05, Option.bind_some, ← l64h, if_pos l6h0, l64h, i64_div h0 h1 (by omega) (by omega), show Int32.ofInt (-1) = iI (-1) from rfl, iI_add, show ((m + 1 : Nat) : Int) - 1 + -1 = (m : Int) - 1 by omega, g1, p5, Int.ediv_ediv_of_nonneg (by omega)]
    · by_cases c : k = m
      · rw [c, g3 m (Nat.le_refl _), hset_s, upd_s, show m + 1 - 1 - m = 0 by omega, p5, Int.ediv_one]
      · rw [g4 k (by omega), show m + 1 - 1 - k = (m - 1 - k) + 1 by omega, p5, Int.ediv_ediv_of_nonneg (by omega)]
theorem c_split {n : Nat} (hn : n ≤ 3) {s : Int} (h0 : 0 ≤ s) (h1 : s < 9223372036854775808) : ∃ h', f_F_splitScript h 180 (iI n) (i64 s) = some (i64 (s / p5 n), h') ∧ (∀ i, i ≠ 181 → h' i = h i) ∧ ∀ k, k < n → h' 181 k = iI (s / p5 (n - 1 - k) % 100000) := by
  obtain ⟨h', g1, g2, g3, g4⟩ := c_split1 n s 4096 h hn (by omega) h0 h1
  unfold f_F_splitScript
  rw [lI1, iI_sub]
  exact ⟨h', g1, g2, g4⟩
theorem c_run (G : Nat → Int) (hG : ∀ k, k < 3 → 0 ≤ G k ∧ G k < 100000) : ∀ (m i fu N : Nat) (h : HP) (y : Nat → Int) (B : Int), i + m = N → N ≤ 3 → m < fu → B + 42000 * m < 2147483648 → OKz B y → RepA h 183 10 188 y → (∀ k, k < N → h 181 k = iI (G k)) → ∃ h', f_F_runScript_59 fu 180 (iI N) (iI i) h = some (.inl (some (.int (iI (scrZ G m i y)))), h') ∧ (∀ i, ¬ own 10 188 i → h' i = h i) := by
  intro m
  induction m with
  | zero =>
    intro i fu N h y B hi hN hfu hB K RA H
    obtain ⟨fu, rfl⟩ : ∃ k, fu = k + 1 := ⟨fu - 1, by omega⟩
    refine ⟨h, ?_, fun _ _ => rfl⟩
    rw [f_F_runScript_59, tLe (by omega) (by omega) (by omega) (by omega), if_pos (by omega), scrZ, m1I]
  | succ m ih =>
    intro i fu N h y B hi hN hfu hB K RA H
    obtain ⟨fu, rfl⟩ : ∃ k, fu = k + 1 := ⟨fu - 1, by omega⟩
    have hg := hG i (by omega)
    have ei : (iI (i : Int)).toNatClampNeg = i := by rw [iI_cl (by omega) (by omega)]; omega
    obtain ⟨h1, g1, g2, g3, -⟩ := c_group RA K (by omega) hg
    rw [scrZ, f_F_runScript_59, tLe (by omega) (by omega) (by omega) (by omega), if_neg (by omega), lI3, tLe (by omega) (by omega) (by omega) (by omega), if_neg (by omega), iI_ib (by omega) (by omega) (by omega), if_pos rfl, f183, f05, ei, H i (by omega), g1, Option.bind_some]
    dsimp only
    by_cases c : (cmdZ y (G i)).1 = true
    · obtain ⟨h', q1, q2⟩ := ih (i + 1) fu N h1 (cmdZ y (G i)).2 (B + 42000) (by omega) hN (by omega) (by omega) (grpZ_ok K _ _ _ _ _ _) g2 (fun k hk => by rw [g3 181 (by unfold own; omega)]; exact H k hk)
      refine ⟨h', ?_, fun i hi => by rw [q2 i hi, g3 i hi]⟩
      rw [if_pos c, if_neg (by decide), lI1, iI_add, show (i : Int) + 1 = ((i + 1 : Nat) : Int) by omega, q1, if_pos c]
    · refine ⟨h1, ?_, g3⟩
      rw [if_neg c, if_pos rfl, if_neg c]
end SCRIPT
