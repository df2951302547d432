/-! the law's calls: runScript -/
section SCRIPT
variable {h g : HP} {a b p : Nat} {z u : Nat → Int} {B : Int}
theorem i64_t {s : Int} (h1 : -9223372036854775808 ≤ s) (h2 : s < 9223372036854775808) : (i64 s).toInt = s := Int64.toInt_ofInt_of_le h1 h2
theorem i64_of (x : Int64) : x = i64 x.toInt := (Int64.ofInt_toInt x).symm
theorem i64_div {x m : Int} (h1 : 0 ≤ x) (h2 : x < 9223372036854775808) (h3 : 0 < m) (h4 : m < 9223372036854775808) : i64 x / i64 m = i64 (x / m) := by
  apply Int64.toInt_inj.mp
  have hn : i64 m ≠ -1 := fun q => by
    have := congrArg Int64.toInt q
    rw [i64_t (by omega) h4] at this
    have e : (-1 : Int64).toInt = -1 := by decide
    omega
  have hd : 0 ≤ x / m := Int.ediv_nonneg h1 (by omega)
  have hd2 : x / m ≤ x := Int.ediv_le_self m h1
  rw [Int64.toInt_div_of_ne_right _ _ hn, i64_t (by omega) h2, i64_t (by omega) h4, i64_t (by omega) (by omega), Int.tdiv_eq_ediv_of_nonneg h1]
theorem i64_mod {x m : Int} (h1 : 0 ≤ x) (h2 : x < 9223372036854775808) (h3 : 0 < m) (h4 : m < 9223372036854775808) : i64 x - i64 x / i64 m * i64 m = i64 (x % m) := by
  rw [i64_div h1 h2 h3 h4]
  unfold i64
  rw [← Int64.ofInt_mul, ← Int64.ofInt_sub]
  congr 1
  have := Int.emod_add_mul_ediv x m
  rw [Int.mul_comm m] at this
  omega
theorem i64_32 (s : Int) : (i64 s).toInt32 = iI s := Int64.toInt32_ofInt
theorem l64h : (100000 : Int64) = i64 100000 := by decide
theorem l6h0 : ¬ (100000 : Int64) = 0 := by decide
theorem lg0 (s : Int) (h1 : -9223372036854775808 ≤ s) (h2 : s < 9223372036854775808) : lg_cmp (i64 s) 0 < 0 ↔ s < 0 := by
  rw [lg_cmp_lt, Int64.lt_iff_toInt_lt, i64_t h1 h2]
  exact Iff.rfl
theorem lg00 (s : Int) (h1 : -9223372036854775808 ≤ s) (h2 : s < 9223372036854775808) : lg_cmp (i64 s) 0 = 0 ↔ s = 0 := by
  have e0 : (0 : Int64).toInt = 0 := by decide
  unfold lg_cmp
  constructor
  · intro q
    split at q
    · exact absurd q (by decide)
    · split at q
      · rename_i c
        have := congrArg Int64.toInt c
        rw [i64_t h1 h2, e0] at this
        exact this
      · exact absurd q (by decide)
  · intro q
    rw [q]
    rfl
theorem m_in64 {x l u : Int64} : f_M_in h x l u = some (if l.toInt ≤ x.toInt ∧ x.toInt ≤ u.toInt then 1 else 0) := by
  unfold f_M_in
  by_cases c1 : x.toInt < l.toInt
  · rw [if_pos ((lg_cmp_lt _ _).mpr (by rw [Int64.lt_iff_toInt_lt]; exact c1)), if_neg (by omega)]
  · rw [if_neg (fun q => c1 (by have := (lg_cmp_lt _ _).mp q; rw [Int64.lt_iff_toInt_lt] at this; exact this))]
    by_cases c2 : u.toInt < x.toInt
    · rw [if_pos ((lg_cmp_gt _ _).mpr (by rw [Int64.lt_iff_toInt_lt]; exact c2)), if_neg (by omega)]
    · rw [if_neg (fun q => c2 (by have := (lg_cmp_gt _ _).mp q; rw [Int64.lt_iff_toInt_lt] at this; exact this)), if_pos (by omega)]
theorem p5_b (n : Nat) (hn : n ≤ 3) : 0 < p5 n ∧ p5 n ≤ 1000000000000000 := by
  rcases (by omega : n = 0 ∨ n = 1 ∨ n = 2 ∨ n = 3) with rfl | rfl | rfl | rfl <;> exact ⟨by decide, by decide⟩
theorem p5_t (n : Nat) (hn : n ≤ 3) : t10 (5 * n) = p5 n := by
  rcases (by omega : n = 0 ∨ n = 1 ∨ n = 2 ∨ n = 3) with rfl | rfl | rfl | rfl <;> decide
theorem m_tens1 (N : Nat) (hN : N ≤ 100) : ∀ (n k fu : Nat) (q : Int), k + n = N → n < fu → f_M_tens_4 h fu (iI N) (i64 q) (iI k) = some (i64 (q * t10 n)) := by
  intro n
  induction n with
  | zero =>
    intro k fu q hk hfu
    obtain ⟨fu, rfl⟩ : ∃ k, fu = k + 1 := ⟨fu - 1, by omega⟩
    rw [f_M_tens_4, tLe (by omega) (by omega) (by omega) (by omega), if_pos (by omega), t10, Int.mul_one]
  | succ n ih =>
    intro k fu q hk hfu
    obtain ⟨fu, rfl⟩ : ∃ k, fu = k + 1 := ⟨fu - 1, by omega⟩
    have e : i64 q * (10 : Int64) = i64 (q * 10) := (Int64.ofInt_mul q 10).symm
    rw [f_M_tens_4, tLe (by omega) (by omega) (by omega) (by omega), if_neg (by omega), e, lI1, iI_add, show (k : Int) + 1 = ((k + 1 : Nat) : Int) by omega, ih (k + 1) fu _ (by omega) (by omega), t10, Int.mul_assoc]
theorem m_tens {n : Nat} (hn : n ≤ 3) : f_M_tens h (iI (5 * (n : Int))) = some (i64 (p5 n)) := by
  have := m_tens1 (h := h) (5 * n) (by omega) (5 * n) 0 4096 1 (by omega) (by omega)
  rw [Int.one_mul, p5_t n hn, show ((5 * n : Nat) : Int) = 5 * (n : Int) by omega] at this
  unfold f_M_tens
  rw [lI0]
  exact this
theorem f05 : fld 180 5 = 181 := rfl
theorem c_split1 : ∀ (m : Nat) (s : Int) (fu : Nat) (h : HP), m ≤ 3 → m < fu → 0 ≤ s → s < 9223372036854775808 → ∃ h', f_F_splitScript_8 fu 180 (i64 s) (iI ((m : Int) - 1)) h = some (i64 (s / p5 m), h') ∧ (∀ i, i ≠ 181 → h' i = h i) ∧ (∀ k, m ≤ k → h' 181 k = h 181 k) ∧ ∀ k, k < m → h' 181 k = iI (s / p5 (m - 1 - k) % 100000) := by
  intro m
  induction m with
  | zero =>
    intro s fu h hm hfu h0 h1
    obtain ⟨fu, rfl⟩ : ∃ k, fu = k + 1 := ⟨fu - 1, by omega⟩
    refine ⟨h, ?_, fun _ _ => rfl, fun _ _ => rfl, fun k hk => absurd hk (by omega)⟩
    rw [f_F_splitScript_8, lI0, tLt (by omega) (by omega) (by omega) (by omega), if_pos (by omega), p5, Int.ediv_one]
  | succ m ih =>
    intro s fu h hm hfu h0 h1
    obtain ⟨fu, rfl⟩ : ∃ k, fu = k + 1 := ⟨fu - 1, by omega⟩
    have e1 : (iI (((m + 1 : Nat) : Int) - 1)).toNatClampNeg = m := by rw [iI_cl (by omega) (by omega)]; omega
    have hp := p5_b m (by omega)
    obtain ⟨h', g1, g2, g3, g4⟩ := ih (s / 100000) fu (hset h 181 m (iI (s % 100000))) (by omega) (by omega) (by omega) (by omega)
    refine ⟨h', ?_, fun i hi => by rw [g2 i hi, hset_n _ _ _ hi], fun k hk => by rw [g3 k (by omega), hset_s, upd_n _ _ (by omega)], fun k hk => ?_⟩
    · rw [f_F_splitScript_8, lI0, tLt (by omega) (by omega) (by omega) (by omega), if_neg (by omega), lI3, tLe (by omega) (by omega) (by omega) (by omega), if_neg (by omega), if_pos l6h0, iI_ib (by omega) (by omega) (by omega), if_pos rfl, e1, l64h, i64_mod h0 h1 (by omega) (by omega), i64_32, f05, Option.bind_some, ← l64h, if_pos l6h0, l64h, i64_div h0 h1 (by omega) (by omega), show Int32.ofInt (-1) = iI (-1) from rfl, iI_add, show ((m + 1 : Nat) : Int) - 1 + -1 = (m : Int) - 1 by omega, g1, p5, Int.ediv_ediv_of_nonneg (by omega)]
    · by_cases c : k = m
      · rw [c, g3 m (Nat.le_refl _), hset_s, upd_s, show m + 1 - 1 - m = 0 by omega, p5, Int.ediv_one]
      · rw [g4 k (by omega), show m + 1 - 1 - k = (m - 1 - k) + 1 by omega, p5, Int.ediv_ediv_of_nonneg (by omega)]
theorem c_split {n : Nat} (hn : n ≤ 3) {s : Int} (h0 : 0 ≤ s) (h1 : s < 9223372036854775808) : ∃ h', f_F_splitScript h 180 (iI n) (i64 s) = some (i64 (s / p5 n), h') ∧ (∀ i, i ≠ 181 → h' i = h i) ∧ ∀ k, k < n → h' 181 k = iI (s / p5 (n - 1 - k) % 100000) := by
  obtain ⟨h', g1, g2, g3, g4⟩ := c_split1 n s 4096 h hn (by omega) h0 h1
  unfold f_F_splitScript
  rw [lI1, iI_sub]
  exact ⟨h', g1, g2, g4⟩
theorem c_run (G : Nat → Int) (hG : ∀ k, k < 3 → 0 ≤ G k ∧ G k < 100000) : ∀ (m i fu N : Nat) (h : HP) (y : Nat → Int) (B : Int), i + m = N → N ≤ 3 → m < fu → B + 42000 * m < 2147483648 → OKz B y → RepA h 183 10 188 y → (∀ k, k < N → h 181 k = iI (G k)) → ∃ h', f_F_runScript_59 fu 180 (iI N) (iI i) h = some (.inl (some (.int (iI (scrZ G m i y)))), h') ∧ (∀ i, ¬ own 10 188 i → h' i = h i) := by
  intro m
  induction m with
  | zero =>
    intro i fu N h y B hi hN hfu hB K RA H
    obtain ⟨fu, rfl⟩ : ∃ k, fu = k + 1 := ⟨fu - 1, by omega⟩
    refine ⟨h, ?_, fun _ _ => rfl⟩
    rw [f_F_runScript_59, tLe (by omega) (by omega) (by omega) (by omega), if_pos (by omega), scrZ, m1I]
  | succ m ih =>
    intro i fu N h y B hi hN hfu hB K RA H
    obtain ⟨fu, rfl⟩ : ∃ k, fu = k + 1 := ⟨fu - 1, by omega⟩
    have hg := hG i (by omega)
    have ei : (iI (i : Int)).toNatClampNeg = i := by rw [iI_cl (by omega) (by omega)]; omega
    obtain ⟨h1, g1, g2, g3, -⟩ := c_group RA K (by omega) hg
    rw [scrZ, f_F_runScript_59, tLe (by omega) (by omega) (by omega) (by omega), if_neg (by omega), lI3, tLe (by omega) (by omega) (by omega) (by omega), if_neg (by omega), iI_ib (by omega) (by omega) (by omega), if_pos rfl, f183, f05, ei, H i (by omega), g1, Option.bind_some]
    dsimp only
    by_cases c : (cmdZ y (G i)).1 = true
    · obtain ⟨h', q1, q2⟩ := ih (i + 1) fu N h1 (cmdZ y (G i)).2 (B + 42000) (by omega) hN (by omega) (by omega) (grpZ_ok K _ _ _ _ _ _) g2 (fun k hk => by rw [g3 181 (by unfold own; omega)]; exact H k hk)
      refine ⟨h', ?_, fun i hi => by rw [q2 i hi, g3 i hi]⟩
      rw [if_pos c, if_neg (by decide), lI1, iI_add, show (i : Int) + 1 = ((i + 1 : Nat) : Int) by omega, q1, if_pos c]
    · refine ⟨h1, ?_, g3⟩
      rw [if_neg c, if_pos rfl, if_neg c]
theorem m_run {s : Int} (h0 : 0 ≤ s) (h1 : s < 9223372036854775808) : ∀ (m i fu N : Nat) (h : HP) (y : Nat → Int) (B : Int), i + m = N → N ≤ 3 → m < fu → B + 42000 * m < 2147483648 → OKz B y → RepM h 202 y → ∃ h', f_M_runScript_56 fu 200 (iI N) (i64 s) (iI i) h = some (iI (scrZ (fun k => s / p5 (N - 1 - k) % 100000) m i y), h') ∧ (∀ i, i ≠ 202 → i ≠ 207 → i ≠ 208 → i ≠ 209 → h' i = h i) := by
  intro m
  induction m with
  | zero =>
    intro i fu N h y B hi hN hfu hB K R
    obtain ⟨fu, rfl⟩ : ∃ k, fu = k + 1 := ⟨fu - 1, by omega⟩
    refine ⟨h, ?_, fun _ _ _ _ _ => rfl⟩
    rw [f_M_runScript_56, tLe (by omega) (by omega) (by omega) (by omega), if_pos (by omega), scrZ, m1I]
  | succ m ih =>
    intro i fu N h y B hi hN hfu hB K R
    obtain ⟨fu, rfl⟩ : ∃ k, fu = k + 1 := ⟨fu - 1, by omega⟩
    have hp := p5_b (N - 1 - i) (by omega)
    have hd : 0 ≤ s / p5 (N - 1 - i) := Int.ediv_nonneg h0 (by omega)
    have hd2 : s / p5 (N - 1 - i) ≤ s := Int.ediv_le_self _ h0
    have hpn : ¬ i64 (p5 (N - 1 - i)) = 0 := fun q => by
      have := congrArg Int64.toInt q
      rw [i64_t (by omega) (by omega)] at this
      have e : (0 : Int64).toInt = 0 := by decide
      omega
    obtain ⟨h2, g1, g2, g3⟩ := m_group R K (by omega) (g := s / p5 (N - 1 - i) % 100000) (by omega)
    rw [scrZ, f_M_runScript_56, tLe (by omega) (by omega) (by omega) (by omega), if_neg (by omega), lI5, lI1, iI_sub, iI_sub, iI_mul, show (5 : Int) * ((N : Int) - 1 - i) = 5 * ((N - 1 - i : Nat) : Int) by omega, m_tens (by omega), Option.bind_some, if_pos hpn, if_pos l6h0, l64h, i64_div h0 h1 (by omega) (by omega), i64_mod hd (by omega) (by omega) (by omega), i64_32, g1, Option.bind_some]
    dsimp only
    by_cases c : (cmdZ y (s / p5 (N - 1 - i) % 100000)).1 = true
    · obtain ⟨h', q1, q2⟩ := ih (i + 1) fu N h2 (cmdZ y (s / p5 (N - 1 - i) % 100000)).2 (B + 42000) (by omega) hN (by omega) (by omega) (grpZ_ok K _ _ _ _ _ _) g2
      refine ⟨h', ?_, fun i i1 i2 i3 i4 => by rw [q2 i i1 i2 i3 i4, g3 i i1 i2 i3 i4]⟩
      rw [if_pos c, if_neg (by decide), iI_add, show (i : Int) + 1 = ((i + 1 : Nat) : Int) by omega, q1, if_pos c]
    · refine ⟨h2, ?_, g3⟩
      rw [if_neg c, if_pos rfl, if_neg c]
theorem Ans.no2 {ES : List String} {fc : HP → Option (Res × HP)} {fm : HP → Option (Int32 × HP)} {E : String} {j v : Int32} {h1 : HP} (I : INV B h) (q : QF h h1) (c : fc h = some (.inr E, h1)) (w : wrapR ES 211 (.inr E, h1) = some (j, h1)) (hj : j ≠ 0) (m : fm h1 = some (v, hset h1 200 0 j)) : Ans B h ES fc fm :=
  Or.inr ⟨E, h1, j, v, _, c, w, hj, m, by rw [hset_s, upd_s], I.qf (q.trans (QF.s0 h1 j))⟩
theorem q_runScript (I : INV B h) (hB : B < 2000000000) (v : Int32) (x : Int64) : Ans B h ["java/lang/IllegalArgumentException"] (fun h => f_F_runScript h 180 v x) (fun h => f_M_runScript h 200 v x) := by
  obtain ⟨z, MI⟩ := I.1
  obtain ⟨RA, RM, h13, K⟩ := id MI
  obtain ⟨S, R, RP, F⟩ := id RA
  obtain ⟨⟨w1, w2⟩, ⟨n1, n2⟩, -⟩ := id F
  obtain ⟨v, hv, rfl⟩ := i32 v
  obtain ⟨s, hs1, hs2, rfl⟩ : ∃ s : Int, -9223372036854775808 ≤ s ∧ s < 9223372036854775808 ∧ x = i64 s := ⟨x.toInt, Int64.le_toInt x, Int64.toInt_lt x, i64_of x⟩
  have r := in32 h hv ⟨by decide, by decide⟩ ⟨by decide, by decide⟩ lI1 lI3
  have rm := fun g => in64 g hv ⟨by decide, by decide⟩ ⟨by decide, by decide⟩ l641 l643
  by_cases c : 1 ≤ v ∧ v ≤ 3
  · rw [if_pos c] at r
    simp only [if_pos c] at rm
    obtain ⟨n, hn, hn1, rfl⟩ : ∃ n : Nat, n ≤ 3 ∧ 1 ≤ n ∧ v = n := ⟨v.toNat, by omega, by omega, by omega⟩
    have hp := p5_b n hn
    have e64 : i64 (p5 n) - 1 = i64 (p5 n - 1) := by
      rw [show (1 : Int64) = i64 1 by decide]
      exact (Int64.ofInt_sub (p5 n) 1).symm
    have e0 : (0 : Int64).toInt = 0 := by decide
    have mi : ∀ g, f_M_in g (i64 s) 0 (i64 (p5 n) - 1) = some (if 0 ≤ s ∧ s < p5 n then 1 else 0) := fun g => by
      rw [e64, m_in64, i64_t hs1 hs2, i64_t (by omega) (by omega), e0]
      by_cases q : 0 ≤ s ∧ s < p5 n
      · rw [if_pos q, if_pos (by omega)]
      · rw [if_neg q, if_neg (by omega)]
    by_cases c0 : s < 0
    · refine Ans.no (E := "java/lang/IllegalArgumentException") (j := 1) (v := 0) I ?_ (wr1 _ _) (by decide) ?_
      · show f_F_runScript h 180 (iI n) (i64 s) = _
        unfold f_F_runScript
        rw [r, Option.bind_some, if_neg (by decide), if_pos ((lg0 s hs1 hs2).mpr c0), f_F_runScript_19, f_F_runScript_20, if_pos rfl]
      · show f_M_runScript h 200 (iI n) (i64 s) = _
        unfold f_M_runScript
        rw [rm, Option.bind_some, if_neg (by decide), lI5, iI_mul, m_tens hn, Option.bind_some, mi, Option.bind_some, if_neg (show ¬ (0 ≤ s ∧ s < p5 n) by omega), if_pos rfl, f_M_runScript_33, f_M_runScript_34, refused1, Option.bind_some]
        dsimp only
        rw [if_neg (by decide)]
    · have hd : 0 ≤ s / p5 n := Int.ediv_nonneg (by omega) (by omega)
      have hd2 : s / p5 n ≤ s := Int.ediv_le_self _ (by omega)
      obtain ⟨h1, g1, g2, g3⟩ := c_split (h := h) hn (s := s) (by omega) hs2
      have q1 : QF h h1 := QF.of (fun i hi => g2 i (fun q => hi (by unfold nImp; omega)))
      by_cases c1 : s < p5 n
      · have es : s / p5 n = 0 := Int.ediv_eq_zero_of_lt (by omega) c1
        have R1 : RepS h1 0 z := R.fr (fun i _ i2 => g2 i (by omega))
        obtain ⟨h2, b1, b2, b3, b4⟩ := a_become S3 B0 (by decide) R1 F
        have hG : ∀ k, k < 3 → 0 ≤ (fun k => s / p5 (n - 1 - k) % 100000) k ∧ (fun k => s / p5 (n - 1 - k) % 100000) k < 100000 := fun k _ => by
          show 0 ≤ s / p5 (n - 1 - k) % 100000 ∧ s / p5 (n - 1 - k) % 100000 < 100000
          omega
        obtain ⟨h3, k1, k2⟩ := c_run (fun k => s / p5 (n - 1 - k) % 100000) hG n 0 4096 n h2 z B (by omega) hn (by omega) (by omega) K b2 (fun k hk => by rw [b4 181 (by unfold own; omega)]; exact g3 k hk)
        refine Ans.q (x := iI (scrZ (fun k => s / p5 (n - 1 - k) % 100000) n 0 z)) (h1 := h3) I ?_ (q1.trans (QF.tr (fun i hi => by rw [k2 i hi, b4 i hi]))) (fun g q => ?_)
        · show f_F_runScript h 180 (iI n) (i64 s) = _
          unfold f_F_runScript
          rw [r, Option.bind_some, if_neg (by decide), if_neg (fun q => c0 ((lg0 s hs1 hs2).mp q)), f_F_runScript_20, if_neg (by decide), g1, Option.bind_some]
          dsimp only
          rw [es, if_pos ((lg00 0 (by omega) (by omega)).mpr rfl), f_F_runScript_39, if_neg (by decide), f183, f00, b1, Option.bind_some, lI0]
          exact k1
        · have RG := MI.m0 q 0
          obtain ⟨h4, p1, p2, p3⟩ := m_copy (a' := 202) (by decide) RG
          obtain ⟨h5, p4, p5'⟩ := m_run (s := s) (by omega) hs2 n 0 4096 n h4 z B (by omega) hn (by omega) (by omega) K p2
          show ∃ h2, f_M_runScript g 200 (iI n) (i64 s) = some (iI _, h2) ∧ QmA g h2
          unfold f_M_runScript
          rw [rm, Option.bind_some, if_neg (by decide), lI5, iI_mul, m_tens hn, Option.bind_some, mi, Option.bind_some, if_pos (show 0 ≤ s ∧ s < p5 n by omega), if_neg (by decide), f_M_runScript_34, refused0, Option.bind_some]
          dsimp only
          rw [if_pos rfl, fA1, fA2, p1, Option.bind_some]
          refine ⟨h5, ?_, QmA.of (fun i i1 i2 i3 i4 => by rw [p5' i i1 i2 i3 i4, p3 i i1])⟩
          rw [lI0]
          exact p4
      · have es : ¬ s / p5 n = 0 := fun q => by
          have := Int.le_ediv_iff_mul_le (a := 1) (b := s) (c := p5 n) hp.1
          have h2 : 1 ≤ s / p5 n := this.mpr (by omega)
          omega
        refine Ans.no2 (E := "java/lang/IllegalArgumentException") (j := 1) (v := 0) (h1 := h1) I q1 ?_ (wr1 _ _) (by decide) ?_
        · show f_F_runScript h 180 (iI n) (i64 s) = _
          unfold f_F_runScript
          rw [r, Option.bind_some, if_neg (by decide), if_neg (fun q => c0 ((lg0 s hs1 hs2).mp q)), f_F_runScript_20, if_neg (by decide), g1, Option.bind_some]
          dsimp only
          rw [if_neg (fun q => es ((lg00 _ (by omega) (by omega)).mp q)), f_F_runScript_39, if_pos rfl]
        · show f_M_runScript h1 200 (iI n) (i64 s) = _
          unfold f_M_runScript
          rw [rm, Option.bind_some, if_neg (by decide), lI5, iI_mul, m_tens hn, Option.bind_some, mi, Option.bind_some, if_neg (show ¬ (0 ≤ s ∧ s < p5 n) by omega), if_pos rfl, f_M_runScript_33, f_M_runScript_34, refused1, Option.bind_some]
          dsimp only
          rw [if_neg (by decide)]
  · rw [if_neg c] at r
    simp only [if_neg c] at rm
    refine Ans.no (E := "java/lang/IllegalArgumentException") (j := 1) (v := 0) I ?_ (wr1 _ _) (by decide) ?_
    · show f_F_runScript h 180 (iI v) (i64 s) = _
      unfold f_F_runScript
      rw [r, Option.bind_some, if_pos rfl, f_F_runScript_19, f_F_runScript_20, if_pos rfl]
    · show f_M_runScript h 200 (iI v) (i64 s) = _
      unfold f_M_runScript
      rw [rm, Option.bind_some, if_pos rfl, f_M_runScript_33, f_M_runScript_34, refused1, Option.bind_some]
      dsimp only
      rw [if_neg (by decide)]
end SCRIPT
