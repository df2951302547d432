/-! the whole text, on both sides -/
noncomputable def prs (t : Nat → Int) (n : Nat) : Nat → Nat → Int → (Nat → Int) → Int × Int × (Nat → Int)
  | 0, _, lo, z => (-1, lo, z)
  | m + 1, pos, lo, z => if n ≤ pos then (-1, lo, z) else if (cmS t n pos).1 = true then prs t n m (cmS t n pos).2 (lo + boI (!(cmX t n pos z).1)) (cmX t n pos z).2 else (((cmS t n pos).2 : Nat), lo, z)
noncomputable def errZ (t : Nat → Int) (n : Nat) : Int := if n = 0 then 0 else if t 0 = 65 then (prs t n 120 1 0 zini).1 else 0
section TEXT
variable {h g : HP} {t z : Nat → Int} {n : Nat} {B : Int}
theorem cmS_u (T : ∀ i : Nat, i < n → 0 ≤ t i ∧ t i ≤ 255) (pos : Nat) : (cmS t n pos).2 ≤ pos + 7 := by
  unfold cmS
  by_cases q : rowL (chT t n pos) < 8
  · rw [if_pos q]
    generalize rowL (chT t n pos) = r at *
    have a := nb1_b (t := t) (n := n) T (r := r) (i := 0) q (by decide) (true, pos + 1)
    have b := nb1_b (t := t) (n := n) T (r := r) (i := 1) q (by decide) (qA t n r (pos + 1)).2
    have c := nb1_b (t := t) (n := n) T (r := r) (i := 2) q (by decide) (qB t n r (pos + 1)).2
    rw [show nb1 t n r 0 (true, pos + 1) = qA t n r (pos + 1) from rfl] at a
    rw [show nb1 t n r 1 (qA t n r (pos + 1)).2 = qB t n r (pos + 1) from rfl] at b
    rw [show nb1 t n r 2 (qB t n r (pos + 1)).2 = qC t n r (pos + 1) from rfl] at c
    dsimp only at a
    omega
  · rw [if_neg q]
    exact Nat.le_add_right _ _
theorem cmS_n {pos : Nat} (hp : n ≤ pos) : cmS t n pos = (false, pos) := by
  have e : chT t n pos = -1 := if_neg (by omega)
  unfold cmS
  rw [e]
  exact if_neg (by decide)
theorem c_err1 : ∀ (m i pos fu : Nat) (lo : Int) (z : Nat → Int) (h : HP), i + m = 120 → m < fu → n ≤ pos + m → pos ≤ 130 → TxC h t n → h 197 3 = iI pos → ∃ h', f_T_firstError_26 fu 197 (iI i) h = some (iI (prs t n m pos lo z).1, h') ∧ (∀ j, j ≠ 197 → j ≠ 199 → h' j = h j) ∧ (∀ k, k ≠ 3 → k ≠ 4 → h' 197 k = h 197 k) := by
  intro m
  induction m with
  | zero =>
    intro i pos fu lo z h hi hfu hn hp T h3
    obtain ⟨fu, rfl⟩ : ∃ k, fu = k + 1 := ⟨fu - 1, by omega⟩
    refine ⟨h, ?_, fun _ _ _ => rfl, fun _ _ _ => rfl⟩
    rw [f_T_firstError_26, lI120, tLe (by omega) (by omega) (by omega) (by omega), if_pos (by omega), prs, m1I]
  | succ m ih =>
    intro i pos fu lo z h hi hfu hn hp T h3
    obtain ⟨fu, rfl⟩ : ∃ k, fu = k + 1 := ⟨fu - 1, by omega⟩
    have t1 := T.1
    rw [f_T_firstError_26, lI120, tLe (by omega) (by omega) (by omega) (by omega), if_neg (by omega), T.2.1, h3, tLe (by omega) (by omega) (by omega) (by omega), prs]
    by_cases c : n ≤ pos
    · rw [if_pos (by omega), if_pos c]
      exact ⟨h, by rw [m1I], fun _ _ _ => rfl, fun _ _ _ => rfl⟩
    · obtain ⟨h1, g1, g2, g3, g4, g5⟩ := c_cmd T (by omega) h3
      rw [if_neg (by omega), if_neg c, g1, Option.bind_some]
      dsimp only
      rw [bo0]
      by_cases k : (cmS t n pos).1 = true
      · have hb := cmS_b T.b pos k
        have hu := cmS_u T.b pos
        rw [if_pos k, if_pos k, lI1, iI_add, show (i : Int) + 1 = ((i + 1 : Nat) : Int) by omega]
        obtain ⟨h', q1, q2, q3⟩ := ih (i + 1) (cmS t n pos).2 fu (lo + boI (!(cmX t n pos z).1)) (cmX t n pos z).2 h1 (by omega) (by omega) (by omega) (by omega) (T.fr (g5 2 (by decide) (by decide)) (g4 198 (by decide) (by decide))) g2
        exact ⟨h', q1, fun j j1 j2 => by rw [q2 j j1 j2, g4 j j1 j2], fun k k1 k2 => by rw [q3 k k1 k2, g5 k k1 k2]⟩
      · rw [if_neg k, if_neg k, g2]
        exact ⟨h1, rfl, g4, g5⟩
theorem c_err (T : TxC h t n) : ∃ h', f_T_firstError h 197 = some (iI (errZ t n), h') ∧ (∀ j, j ≠ 197 → j ≠ 199 → h' j = h j) ∧ (∀ k, k ≠ 3 → k ≠ 4 → h' 197 k = h 197 k) := by
  obtain ⟨t1, t2, t4⟩ := id T
  unfold f_T_firstError errZ
  rw [t2, lI0, tEq (by omega) (by omega) (by omega) (by omega)]
  by_cases c : n = 0
  · rw [if_pos (by omega), if_pos c]
    exact ⟨h, rfl, fun _ _ _ => rfl, fun _ _ _ => rfl⟩
  · have hb := t4 0 (by omega)
    rw [if_neg (by omega), if_neg c, ← lI0, if_pos (by decide), show (0 : Int32).toNatClampNeg = 0 from rfl, fT0, hb.2, lI65, tEq (by omega) (by omega) (by omega) (by omega)]
    by_cases c2 : t 0 = 65
    · rw [if_pos c2, if_pos c2, f_T_goToCommands, Option.bind_some, Option.bind_some]
      obtain ⟨h', q1, q2, q3⟩ := c_err1 (t := t) (n := n) 120 0 1 4096 0 zini (hset h 197 3 1) (by omega) (by omega) (by omega) (by omega) (T.fr (by rw [hset_s, upd_n _ _ (by decide)]) (hset_n _ _ _ (by decide))) (by rw [hset_s, upd_s]; decide)
      rw [show (0 : Int32) = iI ((0 : Nat) : Int) by decide]
      exact ⟨h', q1, fun j j1 j2 => by rw [q2 j j1 j2, hset_n _ _ _ j1], fun k k1 k2 => by rw [q3 k k1 k2, hset_s, upd_n _ _ k1]⟩
    · rw [if_neg c2, if_neg c2, lI0]
      exact ⟨h, rfl, fun _ _ _ => rfl, fun _ _ _ => rfl⟩
end TEXT
