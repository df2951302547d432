/-! the law's calls: load, errorPosition -/
section LOAD
variable {h g : HP} {t z : Nat → Int} {n : Nat} {B : Int}
theorem exR_188 (K : OKz B z) (r : Nat) (a b c : Int) : (exR r a b c z).2 188 = z 188 := by
  obtain ⟨⟨w1, w2⟩, ⟨n1, n2⟩, -⟩ := id K.1
  unfold exR doW doO doD doP doL doS doN doE
  repeat' split
  all_goals first
    | rfl
    | exact zst_n _ _ _ _ (by omega) (by omega)
    | (show uI z 188 (z 188 + 0) 188 = z 188; rw [u188])
    | (rename_i c0; exact zwl_n K.1 c0.2 _ (by decide) (by omega))
    | (show zdl z a b c 188 = z 188; exact zdl_n z a b c (by decide) (by omega))
    | (show zsw z _ _ 188 = z 188; unfold zsw zsx; rw [uI_n _ _ (by decide), zst_n _ _ _ _ (by omega) (by omega), zst_n _ _ _ _ (by omega) (by omega)])
    | (show zdy z _ 188 = z 188; unfold zdy dysZ; rw [uI_n _ _ (by decide), uI_n _ _ (by decide), uI_n _ _ (by decide), dyA_n z _ _ (by decide)])
    | (rename_i c0; have hL := K.1.2.2.2.1 a.toNat (by omega); exact uI_n _ _ (by omega))
    | (rename_i c0; exact uI_n _ _ (by omega))
theorem prs_ok : ∀ (m pos : Nat) (lo B : Int) (z : Nat → Int), OKz B z → OKz (B + 42000 * m) (prs t n m pos lo z).2.2 ∧ (prs t n m pos lo z).2.2 188 = z 188 := by
  intro m
  induction m with
  | zero => intro pos lo B z K; exact ⟨K.mono (by omega), rfl⟩
  | succ m ih =>
    intro pos lo B z K
    rw [prs]
    by_cases c : n ≤ pos
    · rw [if_pos c]; exact ⟨K.mono (by omega), rfl⟩
    · rw [if_neg c]
      by_cases k : (cmS t n pos).1 = true
      · rw [if_pos k]
        have := ih (cmS t n pos).2 (lo + boI (!(cmX t n pos z).1)) (B + 42000) (cmX t n pos z).2 (cmX_ok K pos)
        refine ⟨this.1.mono (by omega), ?_⟩
        rw [this.2]
        exact exR_188 K _ _ _ _
      · rw [if_neg k]; exact ⟨K.mono (by omega), rfl⟩
theorem c_load1 : ∀ (m i pos fu : Nat) (lo : Int) (z : Nat → Int) (B : Int) (h : HP), i + m = 120 → m < fu → n ≤ pos + m → pos ≤ 130 → B + 42000 * m < 2147483648 → (prs t n m pos lo z).1 = -1 → TxC h t n → h 197 3 = iI pos → RepA h 182 0 184 z → OKz B z → ∃ h', f_F_load_51 fu 180 (iI lo) (iI i) h = some (.inl (some (.int (iI (prs t n m pos lo z).2.1))), h') ∧ RepA h' 182 0 184 (prs t n m pos lo z).2.2 ∧ h' 0 13 = h 0 13 ∧ (∀ j, ¬ own 0 184 j → j ≠ 197 → j ≠ 199 → h' j = h j) ∧ (∀ k, k ≠ 3 → k ≠ 4 → h' 197 k = h 197 k) := by
  intro m
  induction m with
  | zero =>
    intro i pos fu lo z B h hi hfu hn hp hB hE T h3 RA K
    obtain ⟨fu, rfl⟩ : ∃ k, fu = k + 1 := ⟨fu - 1, by omega⟩
    refine ⟨h, ?_, RA, rfl, fun _ _ _ _ => rfl, fun _ _ _ => rfl⟩
    rw [f_F_load_51, lI120, tLe (by omega) (by omega) (by omega) (by omega), if_pos (by omega), prs]
  | succ m ih =>
    intro i pos fu lo z B h hi hfu hn hp hB hE T h3 RA K
    obtain ⟨fu, rfl⟩ : ∃ k, fu = k + 1 := ⟨fu - 1, by omega⟩
    have t1 := T.1
    obtain ⟨h1, g1, g2, g3, g4, g5⟩ := c_cmd T (by omega) h3
    have RA1 : RepA h1 182 0 184 z := RA.fr (fun i hi => g4 i (by unfold own at hi; omega) (by unfold own at hi; omega))
    rw [prs] at hE ⊢
    rw [f_F_load_51, lI120, tLe (by omega) (by omega) (by omega) (by omega), if_neg (by omega), f04, g1, Option.bind_some]
    dsimp only
    rw [bo0]
    by_cases c : n ≤ pos
    · have ec := cmS_n (t := t) c
      rw [if_pos c]
      rw [ec, if_neg (fun q => absurd (show false = true from q) (by decide))]
      exact ⟨h1, rfl, RA1, by rw [g4 0 (by decide) (by decide)], fun j _ j1 j2 => g4 j j1 j2, g5⟩
    · rw [if_neg c] at hE ⊢
      by_cases k : (cmS t n pos).1 = true
      · have hb := cmS_b T.b pos k
        have hu := cmS_u T.b pos
        have hq := qs_b T.b hb.1 (pos + 1)
        have hc := ch_b T.b pos
        obtain ⟨x4, x0, x1, x2⟩ := g3 k
        obtain ⟨h2, k1, k2, k3, k4⟩ := c_obey RA1 K (by omega) hb.1 rfl hc hq.1 hq.2.1 hq.2.2.1 x4 x0 x1 x2
        have k1' : f_C_obeyCommand h1 182 197 = some (if (cmX t n pos z).1 = true then 1 else 0, h2) := k1
        have k2' : RepA h2 182 0 184 (cmX t n pos z).2 := k2
        rw [if_pos k] at hE ⊢
        rw [if_pos k, f0, k1', Option.bind_some]
        dsimp only
        obtain ⟨h', q1, q2, q3, q4, q5⟩ := ih (i + 1) (cmS t n pos).2 fu (lo + boI (!(cmX t n pos z).1)) (cmX t n pos z).2 (B + 42000) h2 (by omega) (by omega) (by omega) (by omega) (by omega) hE (T.fr (by rw [k3 197 (by unfold own; omega), g5 2 (by decide) (by decide)]) (by rw [k3 198 (by unfold own; omega), g4 198 (by decide) (by decide)])) (by rw [k3 197 (by unfold own; omega)]; exact g2) k2' (cmX_ok K pos)
        refine ⟨h', ?_, q2, by rw [q3, k4, g4 0 (by decide) (by decide)], fun j j0 j1 j2 => by rw [q4 j j0 j1 j2, k3 j j0, g4 j j1 j2], fun k k1 k2 => by rw [q5 k k1 k2, k3 197 (by unfold own; omega), g5 k k1 k2]⟩
        rw [← q1]
        by_cases x : (cmX t n pos z).1 = true
        · rw [if_pos x, if_neg (by decide), f_F_load_84, lI1, iI_add, show (i : Int) + 1 = ((i + 1 : Nat) : Int) by omega, x]
          show _ = f_F_load_51 fu 180 (iI (lo + 0)) (iI ((i + 1 : Nat) : Int)) h2
          rw [Int.add_zero]
        · have x' : (cmX t n pos z).1 = false := by cases q : (cmX t n pos z).1 with | false => rfl | true => exact absurd q x
          rw [if_neg x, if_pos rfl, f_F_load_84, lI1, iI_add, iI_add, show (i : Int) + 1 = ((i + 1 : Nat) : Int) by omega, x']
          rfl
      · rw [if_neg k] at hE
        have x' : (((cmS t n pos).2 : Nat) : Int) = -1 := hE
        omega
theorem TextI.xc (I : TextI h t n) : TxC h t n := ⟨I.1, I.2.1, fun i hi => ⟨(I.2.2.2 i hi).1, (I.2.2.2 i hi).2.1⟩⟩
theorem TextI.xm (I : TextI h t n) : TxM h t n := ⟨I.1, I.2.2.1, fun i hi => ⟨(I.2.2.2 i hi).1, (I.2.2.2 i hi).2.2⟩⟩
theorem err_b (t : Nat → Int) (n : Nat) (T : ∀ i : Nat, i < n → 0 ≤ t i ∧ t i ≤ 255) (hn : n ≤ 120) : -1 ≤ errZ t n ∧ errZ t n ≤ 1000 := by
  have : ∀ (m pos : Nat) (lo : Int) (z : Nat → Int), -1 ≤ (prs t n m pos lo z).1 ∧ (prs t n m pos lo z).1 ≤ 1000 := by
    intro m
    induction m with
    | zero => intro pos lo z; show (-1 : Int) ≤ -1 ∧ (-1 : Int) ≤ 1000; omega
    | succ m ih =>
      intro pos lo z
      rw [prs]
      by_cases c : n ≤ pos
      · rw [if_pos c]; show (-1 : Int) ≤ -1 ∧ (-1 : Int) ≤ 1000; omega
      · rw [if_neg c]
        by_cases k : (cmS t n pos).1 = true
        · rw [if_pos k]; exact ih _ _ _
        · rw [if_neg k]
          have := cmS_u T pos
          show (-1 : Int) ≤ (((cmS t n pos).2 : Nat) : Int) ∧ (((cmS t n pos).2 : Nat) : Int) ≤ 1000
          omega
  unfold errZ
  split
  · omega
  · split
    · exact this _ _ _ _
    · omega
theorem q_errPos (I : INV B h) : ∃ x h1 h2, f_F_errorPosition h 180 = some (x, h1) ∧ f_M_errorPosition h1 200 = some (x, h2) ∧ INV B h2 := by
  obtain ⟨t, n, TI⟩ := id I.2.2.2
  obtain ⟨h1, g1, g2, g3⟩ := c_err TI.xc
  have q1 : QF h h1 := ⟨fun i i1 _ i3 => g2 i i3 (fun q => i1 (by unfold nImp; omega)), fun k k1 k2 => g3 k k1 k2, fun k _ _ _ _ => by rw [g2 200 (by decide) (by decide)]⟩
  have T1 : TxM (hset h1 200 0 0) t n := TI.xm.fr (by rw [hset_s, upd_n _ _ (by decide), g2 200 (by decide) (by decide)]) (by rw [hset_n _ _ _ (by decide), g2 210 (by decide) (by decide)])
  obtain ⟨h2, k1, k2, k3⟩ := m_readAll T1
  have q2 : QF (hset h1 200 0 0) h2 := ⟨fun i i1 i2 _ => k2.1 i i2 (fun q => i1 (by unfold nImp; omega)) (fun q => i1 (by unfold nImp; omega)) (fun q => i1 (by unfold nImp; omega)) (fun q => i1 (by unfold nImp; omega)), fun k _ _ => by rw [k2.1 197 (by decide) (by decide) (by decide) (by decide) (by decide)], fun k _ k1 k2' k3' => k2.2 k k1 k2' k3'⟩
  refine ⟨iI (errZ t n), h1, h2, ?_, ?_, I.qf ((q1.trans (QF.s0 h1 0)).trans q2)⟩
  · unfold f_F_errorPosition
    rw [f04, g1, Option.bind_some]
  · unfold f_M_errorPosition
    rw [Option.bind_some, k1, Option.bind_some]
theorem fset : ∀ h : HP, f_L_forget h 194 = some (hset (hset h 196 0 0) 196 1 0) := fun h => by
  unfold f_L_forget
  rw [f_L_forget_2, if_neg (by decide), if_pos (by decide), fL1, Option.bind_some, f_L_forget_2, if_neg (by decide), if_pos (by decide), fL1, Option.bind_some, f_L_forget_2, if_pos (by decide)]
  rfl
theorem q_load (I : INV B h) (hB0 : 5040000 ≤ B) : Ans B h ["java/lang/IllegalStateException"] (fun h => f_F_load h 180) (fun h => f_M_load h 200) := by
  obtain ⟨⟨z, MI⟩, ⟨ys, c', y, PI⟩, ⟨ks, SI⟩, ⟨t, n, TI⟩⟩ := id I
  obtain ⟨h1, g1, g2, g3⟩ := c_err TI.xc
  have hbE := err_b t n TI.xc.b TI.1
  have tn1 : n ≤ 120 := TI.1
  have q1 : QF h h1 := ⟨fun i i1 _ i3 => g2 i i3 (fun q => i1 (by unfold nImp; omega)), fun k k1 k2 => g3 k k1 k2, fun k _ _ _ _ => by rw [g2 200 (by decide) (by decide)]⟩
  by_cases c : errZ t n = -1
  · obtain ⟨ha, a1, a2, a3, a4⟩ := a_startAnew (h := h1)
    have no : ∀ i, ¬ i < 10 → ¬ (185 ≤ i ∧ i ≤ 187) → ¬ own 0 184 i := no_own
    have nz : ¬ (n = 0) ∧ t 0 = 65 := by
      unfold errZ at c
      split at c
      · omega
      · split at c
        · rename_i c1 c2; exact ⟨c1, c2⟩
        · omega
    have hE : (prs t n 120 1 0 zini).1 = -1 := by
      unfold errZ at c
      rw [if_neg nz.1, if_pos nz.2] at c
      exact c
    have KP := (prs_ok (t := t) (n := n) 120 1 0 0 zini (zini_ok (Int.le_refl _)))
    -- the class before its loop
    have fb : ∀ i, ¬ own 0 184 i → i ≠ 192 → i ≠ 196 → i ≠ 197 → (hset (hset (hset (hset ha 192 2 0) 196 0 0) 196 1 0) 197 3 1) i = h1 i := fun i i0 i1 i2 i3 => by rw [hset_n _ _ _ i3, hset_n _ _ _ i2, hset_n _ _ _ i2, hset_n _ _ _ i1, a4 i i0]
    have eo : ∀ i, own 0 184 i → (hset (hset (hset (hset ha 192 2 0) 196 0 0) 196 1 0) 197 3 1) i = ha i := fun i i0 => by
      unfold own at i0
      rw [hset_n _ _ _ (by omega), hset_n _ _ _ (by omega), hset_n _ _ _ (by omega), hset_n _ _ _ (by omega)]
    have e197 : ∀ k, k ≠ 3 → (hset (hset (hset (hset ha 192 2 0) 196 0 0) 196 1 0) 197 3 1) 197 k = h1 197 k := fun k hk => by rw [hset_s, upd_n _ _ hk, hset_n _ _ _ (by decide), hset_n _ _ _ (by decide), hset_n _ _ _ (by decide), a4 197 (no _ (by decide) (by decide))]
    have Tb : TxC (hset (hset (hset (hset ha 192 2 0) 196 0 0) 196 1 0) 197 3 1) t n := TI.xc.fr (by rw [e197 2 (by decide), g3 2 (by decide) (by decide)]) (by rw [fb 198 (no _ (by decide) (by decide)) (by decide) (by decide) (by decide), g2 198 (by decide) (by decide)])
    have h3b : (hset (hset (hset (hset ha 192 2 0) 196 0 0) 196 1 0) 197 3 1) 197 3 = iI ((1 : Nat) : Int) := by rw [hset_s, upd_s]; decide
    obtain ⟨hc, b1, b2, b3, b4, b5⟩ := c_load1 (t := t) (n := n) 120 0 1 4096 0 zini 0 _ (by omega) (by omega) (by omega) (by omega) (by omega) hE Tb h3b (a2.fr eo) (zini_ok (Int.le_refl _))
    have fc : ∀ i, ¬ i < 10 → ¬ (185 ≤ i ∧ i ≤ 187) → i ≠ 192 → i ≠ 196 → i ≠ 197 → i ≠ 199 → hc i = h i := fun i i1 i2 i3 i4 i5 i6 => by rw [b4 i (no i i1 i2) i5 i6, fb i (no i i1 i2) i3 i4 i5, g2 i i5 i6]
    have k197 : ∀ k, k ≠ 3 → k ≠ 4 → hc 197 k = h 197 k := fun k k1 k2 => by rw [b5 k k1 k2, e197 k k1, g3 k k1 k2]
    -- the reference
    have Tm : TxM (hset hc 211 0 (iI (prs t n 120 1 0 zini).2.1)) t n := TI.xm.fr (by rw [hset_n _ _ _ (by decide), fc 200 (by decide) (by decide) (by decide) (by decide) (by decide) (by decide)]) (by rw [hset_n _ _ _ (by decide), fc 210 (by decide) (by decide) (by decide) (by decide) (by decide) (by decide)])
    obtain ⟨hd, d1, d2, d3⟩ := m_readAll Tm
    obtain ⟨d4, d5⟩ := d3 c
    obtain ⟨he, e1, e2, e3⟩ := m_copy (h := hset hd 200 0 0) (a := 203) (a' := 201) (by decide) (d5.fr (hset_n _ _ _ (by decide)))
    have fe : ∀ i, i ≠ 200 → i ≠ 201 → i ≠ 203 → i ≠ 206 → i ≠ 207 → i ≠ 208 → i ≠ 209 → i ≠ 211 → (hset (hset (hset he 200 5 0) 206 0 0) 206 1 0) i = hc i := fun i i1 i2 i3 i4 i5 i6 i7 i8 => by rw [hset_n _ _ _ i4, hset_n _ _ _ i4, hset_n _ _ _ i1, e3 i i2, hset_n _ _ _ i1, d2.1 i i1 i3 i5 i6 i7, hset_n _ _ _ i8]
    have s200 : ∀ k, k ≠ 0 → k ≠ 5 → k ≠ 13 → k ≠ 14 → k ≠ 15 → (hset (hset (hset he 200 5 0) 206 0 0) 206 1 0) 200 k = h 200 k := fun k k0 k5 k1 k2 k3 => by rw [hset_n _ _ _ (by decide), hset_n _ _ _ (by decide), hset_s, upd_n _ _ k5, e3 200 (by decide), hset_s, upd_n _ _ k0, d2.2 k k1 k2 k3, hset_n _ _ _ (by decide), fc 200 (by decide) (by decide) (by decide) (by decide) (by decide) (by decide)]
    have e15 : (hset (hset (hset he 200 5 0) 206 0 0) 206 1 0) 200 15 = iI (prs t n 120 1 0 zini).2.1 := by rw [hset_n _ _ _ (by decide), hset_n _ _ _ (by decide), hset_s, upd_n _ _ (by decide), e3 200 (by decide), hset_s, upd_n _ _ (by decide)]; exact d4
    refine Or.inl ⟨iI (prs t n 120 1 0 zini).2.1, hc, hset (hset (hset he 200 5 0) 206 0 0) 206 1 0, ?_, ?_, ?_, ?_, ⟨(prs t n 120 1 0 zini).2.2, ?_, ?_, ?_, KP.1.mono (by omega)⟩, ⟨ys, 0, y, ⟨by omega, PI.2.1, ?_, ?_, ?_, fun j hj => absurd hj (by omega)⟩⟩, ⟨ks, fun s hs => ?_⟩, ⟨t, n, TI.1, ?_, ?_, fun i hi => ?_⟩⟩
    · show f_F_load h 180 = _
      have em : (-1 : Int32) = iI (-1) := by decide
      unfold f_F_load
      rw [f04, g1, Option.bind_some]
      dsimp only
      rw [em, tEq (by omega) (by omega) (by omega) (by omega), if_pos c, f_F_load_16, if_neg (by decide), f0, a1, Option.bind_some, f_P_forget, f02, Option.bind_some, Option.bind_some, f03, fset, Option.bind_some, f_T_goToCommands, f04, Option.bind_some, Option.bind_some, show (0 : Int32) = iI 0 from lI0]
      rw [lI0] at b1
      exact b1
    · show f_M_load (hset hc 211 0 _) 200 = _
      have em : (-1 : Int32) = iI (-1) := by decide
      unfold f_M_load
      rw [d1, Option.bind_some]
      dsimp only
      rw [em, tEq (by omega) (by omega) (by omega) (by omega), if_pos c, f_M_load_14, refused0, Option.bind_some]
      dsimp only
      rw [if_pos rfl, fA3, fA1, e1, Option.bind_some, Option.bind_some, if_pos (by decide), fA7, Option.bind_some, if_pos (by decide), Option.bind_some]
      show some ((hset (hset (hset he 200 5 0) 206 0 0) 206 1 0) 200 15, hset (hset (hset he 200 5 0) 206 0 0) 206 1 0) = _
      rw [e15]
    · rw [hset_n _ _ _ (by decide), hset_n _ _ _ (by decide), hset_s, upd_n _ _ (by decide), e3 200 (by decide), hset_s, upd_s]
    · rw [hset_n _ _ _ (by decide), hset_n _ _ _ (by decide), hset_n _ _ _ (by decide), e3 211 (by decide), hset_n _ _ _ (by decide), d2.1 211 (by decide) (by decide) (by decide) (by decide) (by decide), hset_s, upd_s]
    · exact b2.fr (fun i hi => by unfold own at hi; exact fe i (by omega) (by omega) (by omega) (by omega) (by omega) (by omega) (by omega) (by omega))
    · exact e2.fr (by rw [hset_n _ _ _ (by decide), hset_n _ _ _ (by decide), hset_n _ _ _ (by decide)])
    · rw [fe 0 (by decide) (by decide) (by decide) (by decide) (by decide) (by decide) (by decide) (by decide), b3, eo 0 (by unfold own; omega), a3, KP.2, zini_0 (by decide)]
    · rw [fe 192 (by decide) (by decide) (by decide) (by decide) (by decide) (by decide) (by decide) (by decide), b4 192 (no _ (by decide) (by decide)) (by decide) (by decide), hset_n _ _ _ (by decide), hset_n _ _ _ (by decide), hset_n _ _ _ (by decide), hset_s, upd_n _ _ (by decide), a4 192 (no _ (by decide) (by decide)), g2 192 (by decide) (by decide)]
      exact PI.2.2.1
    · rw [fe 192 (by decide) (by decide) (by decide) (by decide) (by decide) (by decide) (by decide) (by decide), b4 192 (no _ (by decide) (by decide)) (by decide) (by decide), hset_n _ _ _ (by decide), hset_n _ _ _ (by decide), hset_n _ _ _ (by decide), hset_s, upd_s]
      exact lI0
    · rw [hset_n _ _ _ (by decide), hset_n _ _ _ (by decide), hset_s, upd_s]
      exact lI0
    · have e196 : (hset (hset (hset he 200 5 0) 206 0 0) 206 1 0) 196 s = 0 := by
        rw [fe 196 (by decide) (by decide) (by decide) (by decide) (by decide) (by decide) (by decide) (by decide), b4 196 (no _ (by decide) (by decide)) (by decide) (by decide), hset_n _ _ _ (by decide), hset_s]
        rcases (by omega : s = 0 ∨ s = 1) with rfl | rfl
        · rw [upd_n _ _ (by decide), hset_s, upd_s]
        · rw [upd_s]
      have e206 : (hset (hset (hset he 200 5 0) 206 0 0) 206 1 0) 206 s = 0 := by
        rw [hset_s]
        rcases (by omega : s = 0 ∨ s = 1) with rfl | rfl
        · rw [upd_n _ _ (by decide), hset_s, upd_s]
        · rw [upd_s]
      exact ⟨by rw [e196, e206], Or.inl e196⟩
    · rw [fe 197 (by decide) (by decide) (by decide) (by decide) (by decide) (by decide) (by decide) (by decide), k197 2 (by decide) (by decide)]
      exact TI.2.1
    · rw [s200 12 (by decide) (by decide) (by decide) (by decide) (by decide)]
      exact TI.2.2.1
    · rw [fe 198 (by decide) (by decide) (by decide) (by decide) (by decide) (by decide) (by decide) (by decide), fe 210 (by decide) (by decide) (by decide) (by decide) (by decide) (by decide) (by decide) (by decide), fc 198 (by decide) (by decide) (by decide) (by decide) (by decide) (by decide), fc 210 (by decide) (by decide) (by decide) (by decide) (by decide) (by decide)]
      exact TI.2.2.2 i hi
  · have Tm : TxM h1 t n := TI.xm.fr (by rw [g2 200 (by decide) (by decide)]) (g2 210 (by decide) (by decide))
    obtain ⟨hd, d1, d2, d3⟩ := m_readAll Tm
    have q2 : QF h1 hd := ⟨fun i i1 i2 _ => d2.1 i i2 (fun q => i1 (by unfold nImp; omega)) (fun q => i1 (by unfold nImp; omega)) (fun q => i1 (by unfold nImp; omega)) (fun q => i1 (by unfold nImp; omega)), fun k _ _ => by rw [d2.1 197 (by decide) (by decide) (by decide) (by decide) (by decide)], fun k _ k1 k2' k3' => d2.2 k k1 k2' k3'⟩
    have em : (-1 : Int32) = iI (-1) := by decide
    refine Or.inr ⟨"java/lang/IllegalStateException", h1, 1, 0, hset hd 200 0 1, ?_, wr1 _ _, by decide, ?_, by rw [hset_s, upd_s], I.qf ((q1.trans q2).trans (QF.s0 hd 1))⟩
    · show f_F_load h 180 = _
      unfold f_F_load
      rw [f04, g1, Option.bind_some]
      dsimp only
      rw [em, tEq (by omega) (by omega) (by omega) (by omega), if_neg c, f_F_load_16, if_pos rfl]
    · show f_M_load h1 200 = _
      unfold f_M_load
      rw [d1, Option.bind_some]
      dsimp only
      rw [em, tEq (by omega) (by omega) (by omega) (by omega), if_neg c, f_M_load_14, refused1, Option.bind_some]
      dsimp only
      rw [if_neg (by decide)]
end LOAD
