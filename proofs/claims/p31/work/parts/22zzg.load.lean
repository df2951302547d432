/-! the law's calls: load, errorPosition -/
section LOAD
variable {h g : HP} {t z : Nat → Int} {n : Nat} {B : Int}
theorem exR_188 (K : OKz B z) (r : Nat) (a b c : Int) : (exR r a b c z).2 188 = z 188 := by
  obtain ⟨⟨w1, w2⟩, ⟨n1, n2⟩, -⟩ := id K.1
  unfold exR doW doO doD doP doL doS doN doE
  repeat' split
  all_goals first
    | rfl
    | exact zst_n _ _ _ _ (by omega) (by omega)
    | (show uI z 188 (z 188 + 0) 188 = z 188; rw [u188])
    | (rename_i c0; exact zwl_n K.1 c0.2 _ (by decide) (by omega))
    | (show zdl z a b c 188 = z 188; exact zdl_n z a b c (by decide) (by omega))
    | (show zsw z _ _ 188 = z 188; unfold zsw zsx; rw [uI_n _ _ (by decide), zst_n _ _ _ _ (by omega) (by omega), zst_n _ _ _ _ (by omega) (by omega)])
    | (show zdy z _ 188 = z 188; unfold zdy dysZ; rw [uI_n _ _ (by decide), uI_n _ _ (by decide), uI_n _ _ (by decide), dyA_n z _ _ (by decide)])
    | (rename_i c0; have hL := K.1.2.2.2.1 a.toNat (by omega); exact uI_n _ _ (by omega))
    | (rename_i c0; exact uI_n _ _ (by omega))
theorem prs_ok : ∀ (m pos : Nat) (lo B : Int) (z : Nat → Int), OKz B z → OKz (B + 42000 * m) (prs t n m pos lo z).2.2 ∧ (prs t n m pos lo z).2.2 188 = z 188 := by
  intro m
  induction m with
  | zero => intro pos lo B z K; exact ⟨K.mono (by omega), rfl⟩
  | succ m ih =>
    intro pos lo B z K
    rw [prs]
    by_cases c : n ≤ pos
    · rw [if_pos c]; exact ⟨K.mono (by omega), rfl⟩
    · rw [if_neg c]
      by_cases k : (cmS t n pos).1 = true
      · rw [if_pos k]
        have := ih (cmS t n pos).2 (lo + boI (!(cmX t n pos z).1)) (B + 42000) (cmX t n pos z).2 (cmX_ok K pos)
        refine ⟨this.1.mono (by omega), ?_⟩
        rw [this.2]
        exact exR_188 K _ _ _ _
      · rw [if_neg k]; exact ⟨K.mono (by omega), rfl⟩
theorem c_load1 : ∀ (m i pos fu : Nat) (lo : Int) (z : Nat → Int) (B : Int) (h : HP), i + m = 120 → m < fu → n ≤ pos + m → pos ≤ 130 → B + 42000 * m < 2147483648 → (prs t n m pos lo z).1 = -1 → TxC h t n → h 197 3 = iI pos → RepA h 182 0 184 z → OKz B z → ∃ h', f_F_load_51 fu 180 (iI lo) (iI i) h = some (.inl (some (.int (iI (prs t n m pos lo z).2.1))), h') ∧ RepA h' 182 0 184 (prs t n m pos lo z).2.2 ∧ h' 0 13 = h 0 13 ∧ (∀ j, ¬ own 0 184 j → j ≠ 197 → j ≠ 199 → h' j = h j) ∧ (∀ k, k ≠ 3 → k ≠ 4 → h' 197 k = h 197 k) := by
  intro m
  induction m with
  | zero =>
    intro i pos fu lo z B h hi hfu hn hp hB hE T h3 RA K
    obtain ⟨fu, rfl⟩ : ∃ k, fu = k + 1 := ⟨fu - 1, by omega⟩
    refine ⟨h, ?_, RA, rfl, fun _ _ _ _ => rfl, fun _ _ _ => rfl⟩
    rw [f_F_load_51, lI120, tLe (by omega) (by omega) (by omega) (by omega), if_pos (by omega), prs]
  | succ m ih =>
    intro i pos fu lo z B h hi hfu hn hp hB hE T h3 RA K
    obtain ⟨fu, rfl⟩ : ∃ k, fu = k + 1 := ⟨fu - 1, by omega⟩
    have t1 := T.1
    obtain ⟨h1, g1, g2, g3, g4, g5⟩ := c_cmd T (by omega) h3
    have RA1 : RepA h1 182 0 184 z := RA.fr (fun i hi => g4 i (by unfold own at hi; omega) (by unfold own at hi; omega))
    rw [prs] at hE ⊢
    rw [f_F_load_51, lI120, tLe (by omega) (by omega) (by omega) (by omega), if_neg (by omega), f04, g1, Option.bind_some]
    dsimp only
    rw [bo0]
    by_cases c : n ≤ pos
    · have ec := cmS_n (t := t) c
      rw [if_pos c]
      rw [ec, if_neg (fun q => absurd (show false = true from q) (by decide))]
      exact ⟨h1, rfl, RA1, by rw [g4 0 (by decide) (by decide)], fun j _ j1 j2 => g4 j j1 j2, g5⟩
    · rw [if_neg c] at hE ⊢
      by_cases k : (cmS t n pos).1 = true
      · have hb := cmS_b T.b pos k
        have hu := cmS_u T.b pos
        have hq := qs_b T.b hb.1 (pos + 1)
        have hc := ch_b T.b pos
        obtain ⟨x4, x0, x1, x2⟩ := g3 k
        obtain ⟨h2, k1, k2, k3, k4⟩ := c_obey RA1 K (by omega) hb.1 rfl hc hq.1 hq.2.1 hq.2.2.1 x4 x0 x1 x2
        have k1' : f_C_obeyCommand h1 182 197 = some (if (cmX t n pos z).1 = true then 1 else 0, h2) := k1
        have k2' : RepA h2 182 0 184 (cmX t n pos z).2 := k2
        rw [if_pos k] at hE ⊢
        rw [if_pos k, f0, k1', Option.bind_some]
        dsimp only
        obtain ⟨h', q1, q2, q3, q4, q5⟩ := ih (i + 1) (cmS t n pos).2 fu (lo + boI (!(cmX t n pos z).1)) (cmX t n pos z).2 (B + 42000) h2 (by omega) (by omega) (by omega) (by omega) (by omega) hE (T.fr (by rw [k3 197 (by unfold own; omega), g5 2 (by decide) (by decide)]) (by rw [k3 198 (by unfold own; omega), g4 198 (by decide) (by decide)])) (by rw [k3 197 (by unfold own; omega)]; exact g2) k2' (cmX_ok K pos)
        refine ⟨h', ?_, q2, by rw [q3, k4, g4 0 (by decide) (by decide)], fun j j0 j1 j2 => by rw [q4 j j0 j1 j2, k3 j j0, g4 j j1 j2], fun k k1 k2 => by rw [q5 k k1 k2, k3 197 (by unfold own; omega), g5 k k1 k2]⟩
        rw [← q1]
        by_cases x : (cmX t n pos z).1 = true
        · rw [if_pos x, if_neg (by decide), f_F_load_84, lI1, iI_add, show (i : Int) + 1 = ((i + 1 : Nat) : Int) by omega, x]
          show _ = f_F_load_51 fu 180 (iI (lo + 0)) (iI ((i + 1 : Nat) : Int)) h2
          rw [Int.add_zero]
        · have x' : (cmX t n pos z).1 = false := by cases q : (cmX t n pos z).1 with | false => rfl | true => exact absurd q x
          rw [if_neg x, if_pos rfl, f_F_load_84, lI1, iI_add, iI_add, show (i : Int) + 1 = ((i + 1 : Nat) : Int) by omega, x']
          rfl
      · rw [if_neg k] at hE
        have x' : (((cmS t n pos).2 : Nat) : Int) = -1 := hE
        omega
theorem err_b (t : Nat → Int) (n : Nat) (T : ∀ i : Nat, i < n → 0 ≤ t i ∧ t i ≤ 255) (hn : n ≤ 120) : -1 ≤ errZ t n ∧ errZ t n ≤ 1000 := by
  have : ∀ (m pos : Nat) (lo : Int) (z : Nat → Int), -1 ≤ (prs t n m pos lo z).1 ∧ (prs t n m pos lo z).1 ≤ 1000 := by
    intro m
    induction m with
    | zero => intro pos lo z; show (-1 : Int) ≤ -1 ∧ (-1 : Int) ≤ 1000; omega
    | succ m ih =>
      intro pos lo z
      rw [prs]
      by_cases c : n ≤ pos
      · rw [if_pos c]; show (-1 : Int) ≤ -1 ∧ (-1 : Int) ≤ 1000; omega
      · rw [if_neg c]
        by_cases k : (cmS t n pos).1 = true
        · rw [if_pos k]; exact ih _ _ _
        · rw [if_neg k]
          have := cmS_u T pos
          show (-1 : Int) ≤ (((cmS t n pos).2 : Nat) : Int) ∧ (((cmS t n pos).2 : Nat) : Int) ≤ 1000
          omega
  unfold errZ
  split
  · omega
  · split
    · exact this _ _ _ _
    · omega
theorem fset : ∀ h : HP, f_L_forget h 194 = some (hset (hset h 196 0 0) 196 1 0) := fun h => by
  unfold f_L_forget
  rw [f_L_forget_2, if_neg (by decide), if_pos (by decide), fL1, Option.bind_some, f_L_forget_2, if_neg (by decide), if_pos (by decide), fL1, Option.bind_some, f_L_forget_2, if_pos (by decide)]
  rfl
end LOAD
