/-! the law's calls: cheapest -/
section CHEAP
variable {h g : HP} {a b p : Nat} {z u : Nat → Int} {B : Int}
theorem c_ch45 (F : WF z) {d : Nat} (hd : d < 10) (h2 : (d : Int) < z 185) {k : Int} (hk : k = 0 ∨ k = 1) : ∀ (n w fu : Nat) (s : Int × Int) (h : HP) (y : Nat → Int), (w : Int) + n = z 184 → n < fu → okC s → RepS h 0 z → RepA h 183 10 188 y → zst y d (-1) (-1) = zst z d (-1) (-1) → ∃ h', f_F_cheapest_45 fu 180 (iI d) (iI k) (iI s.1) (iI s.2) (iI w) h = some (.inl (some (.int (iI (if k = 0 then (chO (zst z d (-1) (-1)) d n w s).1 else (chO (zst z d (-1) (-1)) d n w s).2)))), h') ∧ (∀ i, ¬ own 10 188 i → h' i = h i) := by
  obtain ⟨⟨w1, w2⟩, ⟨n1, n2⟩, -⟩ := id F
  intro n
  induction n with
  | zero =>
    intro w fu s h y hw hfu hs R RA ez
    obtain ⟨fu, rfl⟩ : ∃ k, fu = k + 1 := ⟨fu - 1, by omega⟩
    refine ⟨h, ?_, fun _ _ => rfl⟩
    rw [f_F_cheapest_45, f00, R.nw, tLe (by omega) (by omega) (by omega) (by omega), if_pos (by omega), lI0, tEq (by omega) (by omega) (by omega) (by omega)]
    by_cases c : k = 0
    · rw [if_pos c, if_pos c]; rfl
    · rw [if_neg c, if_neg c]; rfl
  | succ n ih =>
    intro w fu s h y hw hfu hs R RA ez
    obtain ⟨fu, rfl⟩ : ∃ k, fu = k + 1 := ⟨fu - 1, by omega⟩
    have hL := F.2.2.2.1 w (by omega)
    have eN : ((w : Nat) : Int).toNat = w := by omega
    have uL : zst z d (-1) (-1) (31 * w) = z (31 * w) := zst_n _ _ _ _ (by omega) (by omega)
    obtain ⟨h1, y1, k1, k2, k3, k4, k5, k6⟩ := c_ch63 F (f_F_cheapest_45 fu) hd h2 (w := w) (by omega) (iI k) (z (31 * w)).toNat 0 4096 s h y (by omega) (by omega) (by omega) hs R RA ez
    obtain ⟨h', q1, q2⟩ := ih (w + 1) fu _ h1 y1 (by omega) (by omega) k2 k3 k4 k5
    refine ⟨h', ?_, fun i hi => by rw [q2 i hi, k6 i hi]⟩
    rw [f_F_cheapest_45, f00, R.nw, tLe (by omega) (by omega) (by omega) (by omega), if_neg (by omega), lI0, k1]
    show _ = some (Sum.inl (some (Value.int (iI (if k = 0 then (chO (zst z d (-1) (-1)) d n ((w : Int) + 1) (chI (zst z d (-1) (-1)) d w (zst z d (-1) (-1) (31 * (w : Int).toNat)).toNat 0 s)).1 else (chO (zst z d (-1) (-1)) d n ((w : Int) + 1) (chI (zst z d (-1) (-1)) d w (zst z d (-1) (-1) (31 * (w : Int).toNat)).toNat 0 s)).2)))), h')
    rw [eN, uL, show (w : Int) + 1 = ((w + 1 : Nat) : Int) by omega]
    exact q1
theorem m_ch47 (F : WF z) {d : Nat} (hd : d < 10) (h2 : (d : Int) < z 185) {k : Int} (hk : k = 0 ∨ k = 1) : ∀ (n w fu : Nat) (s : Int × Int) (h : HP), (w : Int) + n = z 184 → n < fu → okC s → RepM h 201 z → ∃ h', f_M_cheapest_47 fu 200 (iI d) (iI k) (iI s.1) (iI s.2) (iI w) h = some (iI (if k = 0 then (chO (zst z d (-1) (-1)) d n w s).1 else (chO (zst z d (-1) (-1)) d n w s).2), h') ∧ (∀ i, i ≠ 202 → i ≠ 207 → i ≠ 208 → i ≠ 209 → h' i = h i) := by
  obtain ⟨⟨w1, w2⟩, ⟨n1, n2⟩, -⟩ := id F
  intro n
  induction n with
  | zero =>
    intro w fu s h hw hfu hs R
    obtain ⟨fu, rfl⟩ : ∃ k, fu = k + 1 := ⟨fu - 1, by omega⟩
    refine ⟨h, ?_, fun _ _ _ _ _ => rfl⟩
    rw [f_M_cheapest_47, ib_184, if_pos rfl, fA1, cl_184, R.c184, tLe (by omega) (by omega) (by omega) (by omega), if_pos (by omega), lI0, tEq (by omega) (by omega) (by omega) (by omega)]
    by_cases c : k = 0
    · rw [if_pos c, if_pos c]; rfl
    · rw [if_neg c, if_neg c]; rfl
  | succ n ih =>
    intro w fu s h hw hfu hs R
    obtain ⟨fu, rfl⟩ : ∃ k, fu = k + 1 := ⟨fu - 1, by omega⟩
    have hL := F.2.2.2.1 w (by omega)
    have eN : ((w : Nat) : Int).toNat = w := by omega
    have uL : zst z d (-1) (-1) (31 * w) = z (31 * w) := zst_n _ _ _ _ (by omega) (by omega)
    obtain ⟨h1, k1, k2, k6⟩ := m_ch63 F (f_M_cheapest_47 fu) hd h2 (w := w) (by omega) (iI k) (z (31 * w)).toNat 0 4096 s h (by omega) (by omega) (by omega) hs R
    obtain ⟨h', q1, q2⟩ := ih (w + 1) fu _ h1 (by omega) (by omega) k2 (R.fr (k6 201 (by decide) (by decide) (by decide) (by decide)))
    refine ⟨h', ?_, fun i i1 i2 i3 i4 => by rw [q2 i i1 i2 i3 i4, k6 i i1 i2 i3 i4]⟩
    rw [f_M_cheapest_47, ib_184, if_pos rfl, fA1, cl_184, R.c184, tLe (by omega) (by omega) (by omega) (by omega), if_neg (by omega), lI0, k1]
    show _ = some (iI (if k = 0 then (chO (zst z d (-1) (-1)) d n ((w : Int) + 1) (chI (zst z d (-1) (-1)) d w (zst z d (-1) (-1) (31 * (w : Int).toNat)).toNat 0 s)).1 else (chO (zst z d (-1) (-1)) d n ((w : Int) + 1) (chI (zst z d (-1) (-1)) d w (zst z d (-1) (-1) (31 * (w : Int).toNat)).toNat 0 s)).2), h')
    rw [eN, uL, show (w : Int) + 1 = ((w + 1 : Nat) : Int) by omega]
    exact q1
theorem q_cheapest (I : INV B h) (x v : Int32) : Ans B h ["java/lang/IndexOutOfBoundsException", "java/lang/IllegalArgumentException"] (fun h => f_F_cheapest h 180 x v) (fun h => f_M_cheapest h 200 x v) := by
  obtain ⟨z, MI⟩ := I.1
  obtain ⟨RA, RM, h13, K⟩ := id MI
  obtain ⟨S, R, RP, F⟩ := id RA
  obtain ⟨⟨w1, w2⟩, ⟨n1, n2⟩, -⟩ := id F
  obtain ⟨x, hx, rfl⟩ := i32 x
  obtain ⟨v, hv, rfl⟩ := i32 v
  have r := in32 h hv ⟨by decide, by decide⟩ ⟨by decide, by decide⟩ lI0 lI1
  have rm := fun g => in64 g hv ⟨by decide, by decide⟩ ⟨by decide, by decide⟩ l640 l641
  have rw_ := s_hasDealer R F hx
  have rwm := m_isDealer RM F hx
  by_cases cw : 0 ≤ x ∧ x < z 185
  · rw [if_pos cw] at rw_ rwm
    by_cases c : 0 ≤ v ∧ v ≤ 1
    · rw [if_pos c] at r
      simp only [if_pos c] at rm
      obtain ⟨d, h2, rfl⟩ : ∃ d : Nat, (d : Int) < z 185 ∧ x = d := ⟨x.toNat, by omega, by omega⟩
      have hd : d < 10 := by omega
      have s0 : okC (-1, -1) := ⟨⟨fun _ => rfl, fun _ => rfl⟩, ⟨by decide, by decide⟩, ⟨by decide, by decide⟩⟩
      obtain ⟨h1, g1, g2, g3, g4⟩ := a_become S3 B0 (by decide) R F
      have R1 : RepS h1 0 z := R.fr (fun i _ i2 => g4 i (fun q => by unfold own at q; omega))
      obtain ⟨h2', k1, k2⟩ := c_ch45 F hd h2 (k := v) (by omega) (z 184).toNat 0 4096 (-1, -1) h1 z (by omega) (by omega) s0 R1 g2 rfl
      refine Ans.q (x := iI (if v = 0 then (chO (zst z d (-1) (-1)) d (z 184).toNat 0 (-1, -1)).1 else (chO (zst z d (-1) (-1)) d (z 184).toNat 0 (-1, -1)).2)) (h1 := h2') I ?_ (QF.tr (fun i hi => by rw [k2 i hi, g4 i hi])) (fun g q => ?_)
      · show f_F_cheapest h 180 (iI d) (iI v) = _
        unfold f_F_cheapest
        rw [f00, rw_, Option.bind_some, if_neg (by decide), r, Option.bind_some, if_neg (by decide), f183, g1, Option.bind_some, lI0, m1I]
        exact k1
      · have RG := MI.m0 q 0
        have RG1 := MI.mg q
        have rwg := m_isDealer RG1 F hx
        rw [if_pos cw] at rwg
        obtain ⟨h3, p1, p2⟩ := m_ch47 F hd h2 (k := v) (by omega) (z 184).toNat 0 4096 (-1, -1) _ (by omega) (by omega) s0 RG
        show ∃ h2, f_M_cheapest g 200 (iI d) (iI v) = some (iI _, h2) ∧ QmA g h2
        unfold f_M_cheapest
        rw [fA1, rwg, Option.bind_some, if_neg (by decide), rm, Option.bind_some, if_neg (by decide), f_M_cheapest_31, refused0, Option.bind_some]
        dsimp only
        rw [if_pos rfl, m1I]
        rw [lI0] at p1 p2 ⊢
        exact ⟨h3, p1, QmA.of (fun i i1 i2 i3 i4 => by rw [lI0]; exact p2 i i1 i2 i3 i4)⟩
    · rw [if_neg c] at r
      simp only [if_neg c] at rm
      refine Ans.no (E := "java/lang/IllegalArgumentException") (j := 2) (v := 0) I ?_ (wr22 _ (by decide)) (by decide) ?_
      · show f_F_cheapest h 180 (iI x) (iI v) = _
        unfold f_F_cheapest
        rw [f00, rw_, Option.bind_some, if_neg (by decide), r, Option.bind_some, if_pos rfl]
      · show f_M_cheapest h 200 (iI x) (iI v) = _
        unfold f_M_cheapest
        rw [fA1, rwm, Option.bind_some, if_neg (by decide), rm, Option.bind_some, if_pos rfl, f_M_cheapest_31, refused2, Option.bind_some]
        dsimp only
        rw [if_neg (by decide)]
  · rw [if_neg cw] at rw_ rwm
    refine Ans.no (E := "java/lang/IndexOutOfBoundsException") (j := 1) (v := 0) I ?_ (wr12 _ _ _) (by decide) ?_
    · show f_F_cheapest h 180 (iI x) (iI v) = _
      unfold f_F_cheapest
      rw [f00, rw_, Option.bind_some, if_pos rfl]
    · show f_M_cheapest h 200 (iI x) (iI v) = _
      unfold f_M_cheapest
      rw [fA1, rwm, Option.bind_some, if_pos rfl, f_M_cheapest_31, refused1, Option.bind_some]
      dsimp only
      rw [if_neg (by decide)]
theorem q_why (I : INV B h) (x y : Int32) : Ans B h ["java/lang/IndexOutOfBoundsException", "java/lang/IllegalArgumentException"] (fun h => f_F_why h 180 x y) (fun h => f_M_why h 200 x y) := by
  obtain ⟨z, MI⟩ := I.1
  obtain ⟨RA, RM, h13, K⟩ := id MI
  obtain ⟨S, R, RP, F⟩ := id RA
  obtain ⟨⟨w1, w2⟩, ⟨n1, n2⟩, -⟩ := id F
  obtain ⟨x, hx, rfl⟩ := i32 x
  obtain ⟨y, hy, rfl⟩ := i32 y
  have rd := s_hasDealer R F hx
  have re := s_hasDealer R F hy
  have rdm := m_areDealers RM F hx hy
  by_cases cd : 0 ≤ x ∧ x < z 185
  · rw [if_pos cd] at rd
    by_cases ce : 0 ≤ y ∧ y < z 185
    · rw [if_pos ce] at re
      rw [if_pos ⟨cd, ce⟩] at rdm
      by_cases cxy : x = y
      · skip
        refine Ans.no (E := "java/lang/IllegalArgumentException") (j := 2) (v := 0) I ?_ (wr22 _ (by decide)) (by decide) ?_
        · show f_F_why h 180 (iI x) (iI y) = _
          unfold f_F_why
          rw [f00, rd, Option.bind_some, if_neg (by decide), re, Option.bind_some, if_neg (by decide), f_F_why_33, if_neg (by decide), if_pos (by rw [cxy]), f_F_why_46, if_pos rfl]
        · show f_M_why h 200 (iI x) (iI y) = _
          unfold f_M_why
          rw [fA1, rdm, Option.bind_some, if_neg (by decide), if_pos (by rw [cxy]), f_M_why_27, refused2, Option.bind_some]
          dsimp only
          rw [if_neg (by decide)]
      · obtain ⟨d, h2, rfl⟩ : ∃ d : Nat, (d : Int) < z 185 ∧ x = d := ⟨x.toNat, by omega, by omega⟩
        obtain ⟨e, h3', rfl⟩ : ∃ d : Nat, (d : Int) < z 185 ∧ y = d := ⟨y.toNat, by omega, by omega⟩
        have hd : d < 10 := by omega
        have he : e < 10 := by omega
        have hde : d ≠ e := by omega
        have cxy' : ¬ iI (d : Int) = iI (e : Int) := fun q => cxy ((iI_eq (by omega) (by omega) (by omega) (by omega)).mp q)
        refine Ans.q (x := iI (rsnS z d e)) (h1 := h) I ?_ (QF.refl h) (fun g q => ?_)
        · show f_F_why h 180 (iI d) (iI e) = _
          unfold f_F_why
          rw [f00, rd, Option.bind_some, if_neg (by decide), re, Option.bind_some, if_neg (by decide), f_F_why_33, if_neg (by decide), if_neg cxy', f_F_why_46, if_neg (by decide), f0, a_swapR S R F hd h2 he h3' hde, Option.bind_some]
        · have RG := MI.m0 q 0
          have rdg := m_areDealers (MI.mg q) F hx hy
          rw [if_pos ⟨cd, ce⟩] at rdg
          obtain ⟨h1, g1, g2, g3⟩ := m_copy (a' := 202) (by decide) RG
          obtain ⟨h2', k1, k2, k3⟩ := m_swapR g2 F hd h2 he h3' hde
          show ∃ h2, f_M_why g 200 (iI d) (iI e) = some (iI (rsnS z d e), h2) ∧ QmA g h2
          unfold f_M_why
          rw [fA1, rdg, Option.bind_some, if_neg (by decide), if_neg cxy', f_M_why_27, refused0, Option.bind_some]
          dsimp only
          rw [if_pos rfl, fA1, fA2, g1, Option.bind_some, k1, Option.bind_some]
          exact ⟨h2', rfl, QmA.of (fun i i1 _ _ _ => by rw [k3 i i1, g3 i i1])⟩
    · rw [if_neg ce] at re
      rw [if_neg (fun q => ce q.2)] at rdm
      refine Ans.no (E := "java/lang/IndexOutOfBoundsException") (j := 1) (v := 0) I ?_ (wr12 _ _ _) (by decide) ?_
      · show f_F_why h 180 (iI x) (iI y) = _
        unfold f_F_why
        rw [f00, rd, Option.bind_some, if_neg (by decide), re, Option.bind_some, if_pos rfl, f_F_why_32, f_F_why_33, if_pos rfl]
      · show f_M_why h 200 (iI x) (iI y) = _
        unfold f_M_why
        rw [fA1, rdm, Option.bind_some, if_pos rfl, f_M_why_27, refused1, Option.bind_some]
        dsimp only
        rw [if_neg (by decide)]
  · rw [if_neg cd] at rd
    rw [if_neg (fun q => cd q.1)] at rdm
    refine Ans.no (E := "java/lang/IndexOutOfBoundsException") (j := 1) (v := 0) I ?_ (wr12 _ _ _) (by decide) ?_
    · show f_F_why h 180 (iI x) (iI y) = _
      unfold f_F_why
      rw [f00, rd, Option.bind_some, if_pos rfl, f_F_why_32, f_F_why_33, if_pos rfl]
    · show f_M_why h 200 (iI x) (iI y) = _
      unfold f_M_why
      rw [fA1, rdm, Option.bind_some, if_pos rfl, f_M_why_27, refused1, Option.bind_some]
      dsimp only
      rw [if_neg (by decide)]
end CHEAP
