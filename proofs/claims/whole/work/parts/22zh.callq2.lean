/-! the law's calls: questions about walls, metres, dealers -/
section CALLQ2
variable {h g : HP} {a b p : Nat} {z : Nat → Int} {B : Int}
theorem q_wallOf (I : INV B h) (x v : Int32) : Ans B h ["java/lang/IndexOutOfBoundsException", "java/lang/IllegalArgumentException"] (fun h => f_F_wallOf h 180 x v) (fun h => f_M_wallOf h 200 x v) := by
  obtain ⟨z, MI⟩ := I.1
  obtain ⟨RA, RM, h13, K⟩ := id MI
  obtain ⟨S, R, RP, F⟩ := id RA
  obtain ⟨⟨w1, w2⟩, ⟨n1, n2⟩, -⟩ := id F
  obtain ⟨x, hx, rfl⟩ := i32 x
  obtain ⟨v, hv, rfl⟩ := i32 v
  have r := in32 h hv ⟨by decide, by decide⟩ ⟨by decide, by decide⟩ lI0 lI5
  have rm := fun g => in64 g hv ⟨by decide, by decide⟩ ⟨by decide, by decide⟩ l640 l645
  have rw_ := s_hasWall R F hx
  have rwm := m_isWall RM F hx
  by_cases cw : 0 ≤ x ∧ x < z 184
  · rw [if_pos cw] at rw_ rwm
    by_cases c : 0 ≤ v ∧ v ≤ 5
    · rw [if_pos c] at r
      simp only [if_pos c] at rm
      have hL := F.2.2.2.1 x.toNat (by omega)
      obtain ⟨w, hw, rfl⟩ : ∃ w : Nat, (w : Int) < z 184 ∧ x = w := ⟨x.toNat, by omega, by omega⟩
      rcases (by omega : v = 0 ∨ v = 1 ∨ v = 2 ∨ v = 3 ∨ v = 4 ∨ v = 5) with rfl | rfl | rfl | rfl | rfl | rfl
      · refine Ans.q (x := iI (z (31 * w))) (h1 := h) I ?_ (QF.refl h) (fun g q => ?_)
        · show f_F_wallOf h 180 (iI w) (iI 0) = _
          unfold f_F_wallOf
          rw [f00, rw_, Option.bind_some, if_neg (by decide), r, Option.bind_some, if_neg (by decide), if_pos (by decide), st_len R S.bs F (w := (w : Int)) ⟨by omega, by omega⟩, Option.bind_some, show (w : Int).toNat = w by omega]
        · have RG := MI.m0 q 0
          have rwg := m_isWall (MI.mg q) F hx
          rw [if_pos cw] at rwg
          show ∃ h2, f_M_wallOf g 200 (iI w) (iI 0) = some (iI (z (31 * w)), h2) ∧ QmA g h2
          obtain ⟨h1, g1, g2, g3⟩ := m_share (Or.inl rfl) F _ RG
          have R1 : RepM h1 201 z := RG.fr (g3 _ (by decide) (by decide) (by decide))
          unfold f_M_wallOf
          rw [fA1, rwg, Option.bind_some, if_neg (by decide), rm, Option.bind_some, if_neg (by decide), f_M_wallOf_33, refused0, Option.bind_some]
          dsimp only
          rw [if_pos rfl, fA1, g1, Option.bind_some]
          rw [if_pos (by decide), m_size R1 (w := w) (by omega), Option.bind_some]
          exact ⟨h1, rfl, QmA.of (fun i _ n1 n2 n3 => g3 i n1 n2 n3)⟩
      · refine Ans.q (x := iI (stwZ z w)) (h1 := h) I ?_ (QF.refl h) (fun g q => ?_)
        · show f_F_wallOf h 180 (iI w) (iI 1) = _
          unfold f_F_wallOf
          rw [f00, rw_, Option.bind_some, if_neg (by decide), r, Option.bind_some, if_neg (by decide), if_neg (by decide), if_pos (by decide), f0, a_stAt S R F (x := (w : Int)) ⟨by omega, by omega⟩, Option.bind_some]
        · have RG := MI.m0 q 0
          have rwg := m_isWall (MI.mg q) F hx
          rw [if_pos cw] at rwg
          show ∃ h2, f_M_wallOf g 200 (iI w) (iI 1) = some (iI (stwZ z w), h2) ∧ QmA g h2
          obtain ⟨h1, g1, g2, g3⟩ := m_share (Or.inl rfl) F _ RG
          have R1 : RepM h1 201 z := RG.fr (g3 _ (by decide) (by decide) (by decide))
          have e := m_stw1 R1 F (x := (w : Int)) ⟨by omega, by omega⟩ (z 185).toNat 0 4096 0 (by omega) (by omega)
          rw [Int.zero_add] at e
          unfold f_M_wallOf
          rw [fA1, rwg, Option.bind_some, if_neg (by decide), rm, Option.bind_some, if_neg (by decide), f_M_wallOf_33, refused0, Option.bind_some]
          dsimp only
          rw [if_pos rfl, fA1, g1, Option.bind_some]
          rw [if_neg (by decide), if_pos (by decide), lI0]
          refine ⟨h1, e, QmA.of (fun i _ n1 n2 n3 => g3 i n1 n2 n3)⟩
      · refine Ans.q (x := iI (plgZ z w)) (h1 := h) I ?_ (QF.refl h) (fun g q => ?_)
        · show f_F_wallOf h 180 (iI w) (iI 2) = _
          unfold f_F_wallOf
          rw [f00, rw_, Option.bind_some, if_neg (by decide), r, Option.bind_some, if_neg (by decide), if_neg (by decide), if_neg (by decide), if_pos (by decide), f0, a_plugsAt S R F hw, Option.bind_some]
        · have RG := MI.m0 q 0
          have rwg := m_isWall (MI.mg q) F hx
          rw [if_pos cw] at rwg
          show ∃ h2, f_M_wallOf g 200 (iI w) (iI 2) = some (iI (plgZ z w), h2) ∧ QmA g h2
          obtain ⟨h1, g1, g2, g3⟩ := m_share (Or.inl rfl) F _ RG
          have R1 : RepM h1 201 z := RG.fr (g3 _ (by decide) (by decide) (by decide))
          unfold f_M_wallOf
          rw [fA1, rwg, Option.bind_some, if_neg (by decide), rm, Option.bind_some, if_neg (by decide), f_M_wallOf_33, refused0, Option.bind_some]
          dsimp only
          rw [if_pos rfl, fA1, g1, Option.bind_some]
          rw [if_neg (by decide), if_neg (by decide), if_pos (by decide), m_plugsAt R1 F hw, Option.bind_some]
          exact ⟨h1, rfl, QmA.of (fun i _ n1 n2 n3 => g3 i n1 n2 n3)⟩
      · refine Ans.q (x := iI (hadZ z w)) (h1 := h) I ?_ (QF.refl h) (fun g q => ?_)
        · show f_F_wallOf h 180 (iI w) (iI 3) = _
          unfold f_F_wallOf
          rw [f00, rw_, Option.bind_some, if_neg (by decide), r, Option.bind_some, if_neg (by decide), if_neg (by decide), if_neg (by decide), if_neg (by decide), if_pos (by decide), f0, a_hadAt S R F RP hw, Option.bind_some]
        · have RG := MI.m0 q 0
          have rwg := m_isWall (MI.mg q) F hx
          rw [if_pos cw] at rwg
          show ∃ h2, f_M_wallOf g 200 (iI w) (iI 3) = some (iI (hadZ z w), h2) ∧ QmA g h2
          obtain ⟨h1, g1, g2, g3⟩ := m_share (Or.inl rfl) F _ RG
          have R1 : RepM h1 201 z := RG.fr (g3 _ (by decide) (by decide) (by decide))
          have e := m_tkn1 g2 (w := w) (by omega) 30 0 4096 0 (by omega) (by omega)
          rw [Int.zero_add, had_30 F (w := w) (by omega)] at e
          unfold f_M_wallOf
          rw [fA1, rwg, Option.bind_some, if_neg (by decide), rm, Option.bind_some, if_neg (by decide), f_M_wallOf_33, refused0, Option.bind_some]
          dsimp only
          rw [if_pos rfl, fA1, g1, Option.bind_some]
          rw [if_neg (by decide), if_neg (by decide), if_neg (by decide), if_pos (by decide), lI0]
          refine ⟨h1, e, QmA.of (fun i _ n1 n2 n3 => g3 i n1 n2 n3)⟩
      · refine Ans.q (x := iI ((rowZ z w).1)) (h1 := h) I ?_ (QF.refl h) (fun g q => ?_)
        · show f_F_wallOf h 180 (iI w) (iI 4) = _
          unfold f_F_wallOf
          rw [f00, rw_, Option.bind_some, if_neg (by decide), r, Option.bind_some, if_neg (by decide), if_neg (by decide), if_neg (by decide), if_neg (by decide), if_neg (by decide), if_pos (by decide), f0, a_row S R F hw, Option.bind_some]
        · have RG := MI.m0 q 0
          have rwg := m_isWall (MI.mg q) F hx
          rw [if_pos cw] at rwg
          show ∃ h2, f_M_wallOf g 200 (iI w) (iI 4) = some (iI ((rowZ z w).1), h2) ∧ QmA g h2
          obtain ⟨h1, g1, g2, g3⟩ := m_share (Or.inl rfl) F _ RG
          have R1 : RepM h1 201 z := RG.fr (g3 _ (by decide) (by decide) (by decide))
          have e := m_row R1 F hw (k := 0) (Or.inl rfl)
          rw [if_pos rfl] at e
          unfold f_M_wallOf
          rw [fA1, rwg, Option.bind_some, if_neg (by decide), rm, Option.bind_some, if_neg (by decide), f_M_wallOf_33, refused0, Option.bind_some]
          dsimp only
          rw [if_pos rfl, fA1, g1, Option.bind_some]
          rw [if_neg (by decide), if_neg (by decide), if_neg (by decide), if_neg (by decide), if_neg (by decide), f_M_wallOf_198, lI0, e, Option.bind_some]
          exact ⟨h1, rfl, QmA.of (fun i _ n1 n2 n3 => g3 i n1 n2 n3)⟩
      · refine Ans.q (x := iI ((rowZ z w).2)) (h1 := h) I ?_ (QF.refl h) (fun g q => ?_)
        · show f_F_wallOf h 180 (iI w) (iI 5) = _
          unfold f_F_wallOf
          rw [f00, rw_, Option.bind_some, if_neg (by decide), r, Option.bind_some, if_neg (by decide), if_neg (by decide), if_neg (by decide), if_neg (by decide), if_neg (by decide), if_neg (by decide), f0, a_startRow S R F hw, Option.bind_some]
        · have RG := MI.m0 q 0
          have rwg := m_isWall (MI.mg q) F hx
          rw [if_pos cw] at rwg
          show ∃ h2, f_M_wallOf g 200 (iI w) (iI 5) = some (iI ((rowZ z w).2), h2) ∧ QmA g h2
          obtain ⟨h1, g1, g2, g3⟩ := m_share (Or.inl rfl) F _ RG
          have R1 : RepM h1 201 z := RG.fr (g3 _ (by decide) (by decide) (by decide))
          have e := m_row R1 F hw (k := 1) (Or.inr rfl)
          rw [if_neg (by decide)] at e
          unfold f_M_wallOf
          rw [fA1, rwg, Option.bind_some, if_neg (by decide), rm, Option.bind_some, if_neg (by decide), f_M_wallOf_33, refused0, Option.bind_some]
          dsimp only
          rw [if_pos rfl, fA1, g1, Option.bind_some]
          rw [if_neg (by decide), if_neg (by decide), if_neg (by decide), if_neg (by decide), if_pos (by decide), f_M_wallOf_198, lI1, e, Option.bind_some]
          exact ⟨h1, rfl, QmA.of (fun i _ n1 n2 n3 => g3 i n1 n2 n3)⟩
    · rw [if_neg c] at r
      simp only [if_neg c] at rm
      refine Ans.no (E := "java/lang/IllegalArgumentException") (j := 2) (v := 0) I ?_ (wr22 _ (by decide)) (by decide) ?_
      · show f_F_wallOf h 180 (iI x) (iI v) = _
        unfold f_F_wallOf
        rw [f00, rw_, Option.bind_some, if_neg (by decide), r, Option.bind_some, if_pos rfl]
      · show f_M_wallOf h 200 (iI x) (iI v) = _
        unfold f_M_wallOf
        rw [fA1, rwm, Option.bind_some, if_neg (by decide), rm, Option.bind_some, if_pos rfl, f_M_wallOf_33, refused2, Option.bind_some]
        dsimp only
        rw [if_neg (by decide)]
  · rw [if_neg cw] at rw_ rwm
    refine Ans.no (E := "java/lang/IndexOutOfBoundsException") (j := 1) (v := 0) I ?_ (wr12 _ _ _) (by decide) ?_
    · show f_F_wallOf h 180 (iI x) (iI v) = _
      unfold f_F_wallOf
      rw [f00, rw_, Option.bind_some, if_pos rfl]
    · show f_M_wallOf h 200 (iI x) (iI v) = _
      unfold f_M_wallOf
      rw [fA1, rwm, Option.bind_some, if_pos rfl, f_M_wallOf_33, refused1, Option.bind_some]
      dsimp only
      rw [if_neg (by decide)]
theorem q_free (I : INV B h) (x v : Int32) : Ans B h ["java/lang/IndexOutOfBoundsException", "java/lang/IllegalArgumentException"] (fun h => f_F_free h 180 x v) (fun h => f_M_free h 200 x v) := by
  obtain ⟨z, MI⟩ := I.1
  obtain ⟨RA, RM, h13, K⟩ := id MI
  obtain ⟨S, R, RP, F⟩ := id RA
  obtain ⟨⟨w1, w2⟩, ⟨n1, n2⟩, -⟩ := id F
  obtain ⟨x, hx, rfl⟩ := i32 x
  obtain ⟨v, hv, rfl⟩ := i32 v
  have r := in32 h hv ⟨by decide, by decide⟩ ⟨by decide, by decide⟩ lI0 lI1
  have rm := fun g => in64 g hv ⟨by decide, by decide⟩ ⟨by decide, by decide⟩ l640 l641
  have rw_ := s_hasWall R F hx
  have rwm := m_isWall RM F hx
  by_cases cw : 0 ≤ x ∧ x < z 184
  · rw [if_pos cw] at rw_ rwm
    by_cases c : 0 ≤ v ∧ v ≤ 1
    · rw [if_pos c] at r
      simp only [if_pos c] at rm
      have hL := F.2.2.2.1 x.toNat (by omega)
      obtain ⟨w, hw, rfl⟩ : ∃ w : Nat, (w : Int) < z 184 ∧ x = w := ⟨x.toNat, by omega, by omega⟩
      rcases (by omega : v = 0 ∨ v = 1) with rfl | rfl
      · refine Ans.q (x := iI (freZ z w)) (h1 := h) I ?_ (QF.refl h) (fun g q => ?_)
        · show f_F_free h 180 (iI w) (iI 0) = _
          unfold f_F_free
          rw [f00, rw_, Option.bind_some, if_neg (by decide), r, Option.bind_some, if_neg (by decide), if_pos (by decide), f0, a_freeM S R F hw, Option.bind_some]
        · have RG := MI.m0 q 0
          have rwg := m_isWall (MI.mg q) F hx
          rw [if_pos cw] at rwg
          show ∃ h2, f_M_free g 200 (iI w) (iI 0) = some (iI (freZ z w), h2) ∧ QmA g h2
          unfold f_M_free
          rw [fA1, rwg, Option.bind_some, if_neg (by decide), rm, Option.bind_some, if_neg (by decide), f_M_free_31, refused0, Option.bind_some]
          dsimp only
          rw [if_pos rfl, if_pos (by decide), fA1, m_freeAt RG F hw, Option.bind_some]
          exact ⟨_, rfl, QmA.of (fun i _ _ _ _ => rfl)⟩
      · refine Ans.q (x := iI (z (31 * w) - frwZ z w)) (h1 := h) I ?_ (QF.refl h) (fun g q => ?_)
        · show f_F_free h 180 (iI w) (iI 1) = _
          unfold f_F_free
          rw [f00, rw_, Option.bind_some, if_neg (by decide), r, Option.bind_some, if_neg (by decide), if_neg (by decide), f0, a_frF S R F (x := (w : Int)) ⟨by omega, by omega⟩, Option.bind_some, show (w : Int).toNat = w by omega]
        · have RG := MI.m0 q 0
          have rwg := m_isWall (MI.mg q) F hx
          rw [if_pos cw] at rwg
          show ∃ h2, f_M_free g 200 (iI w) (iI 1) = some (iI (z (31 * w) - frwZ z w), h2) ∧ QmA g h2
          unfold f_M_free
          rw [fA1, rwg, Option.bind_some, if_neg (by decide), rm, Option.bind_some, if_neg (by decide), f_M_free_31, refused0, Option.bind_some]
          dsimp only
          rw [if_pos rfl, if_neg (by decide), fA1, m_lessF RG F (x := (w : Int)) ⟨by omega, by omega⟩, Option.bind_some, show (w : Int).toNat = w by omega]
          exact ⟨_, rfl, QmA.of (fun i _ _ _ _ => rfl)⟩
    · rw [if_neg c] at r
      simp only [if_neg c] at rm
      refine Ans.no (E := "java/lang/IllegalArgumentException") (j := 2) (v := 0) I ?_ (wr22 _ (by decide)) (by decide) ?_
      · show f_F_free h 180 (iI x) (iI v) = _
        unfold f_F_free
        rw [f00, rw_, Option.bind_some, if_neg (by decide), r, Option.bind_some, if_pos rfl]
      · show f_M_free h 200 (iI x) (iI v) = _
        unfold f_M_free
        rw [fA1, rwm, Option.bind_some, if_neg (by decide), rm, Option.bind_some, if_pos rfl, f_M_free_31, refused2, Option.bind_some]
        dsimp only
        rw [if_neg (by decide)]
  · rw [if_neg cw] at rw_ rwm
    refine Ans.no (E := "java/lang/IndexOutOfBoundsException") (j := 1) (v := 0) I ?_ (wr12 _ _ _) (by decide) ?_
    · show f_F_free h 180 (iI x) (iI v) = _
      unfold f_F_free
      rw [f00, rw_, Option.bind_some, if_pos rfl]
    · show f_M_free h 200 (iI x) (iI v) = _
      unfold f_M_free
      rw [fA1, rwm, Option.bind_some, if_pos rfl, f_M_free_31, refused1, Option.bind_some]
      dsimp only
      rw [if_neg (by decide)]
theorem q_metreOf (I : INV B h) (x y v : Int32) : Ans B h ["java/lang/IndexOutOfBoundsException", "java/lang/IllegalArgumentException"] (fun h => f_F_metreOf h 180 x y v) (fun h => f_M_metreOf h 200 x y v) := by
  obtain ⟨z, MI⟩ := I.1
  obtain ⟨RA, RM, h13, K⟩ := id MI
  obtain ⟨S, R, RP, F⟩ := id RA
  obtain ⟨⟨w1, w2⟩, ⟨n1, n2⟩, -⟩ := id F
  obtain ⟨x, hx, rfl⟩ := i32 x
  obtain ⟨y, hy, rfl⟩ := i32 y
  obtain ⟨v, hv, rfl⟩ := i32 v
  have r := in32 h hv ⟨by decide, by decide⟩ ⟨by decide, by decide⟩ lI0 lI2
  have rm := fun g => in64 g hv ⟨by decide, by decide⟩ ⟨by decide, by decide⟩ l640 l642
  have rw_ := s_hasMetre R S.bs F hx hy
  have rwm := m_isMetre RM F hx hy
  by_cases cw : 0 ≤ x ∧ x < z 184 ∧ 0 ≤ y ∧ y < z (31 * x.toNat)
  · rw [if_pos cw] at rw_ rwm
    by_cases c : 0 ≤ v ∧ v ≤ 2
    · rw [if_pos c] at r
      simp only [if_pos c] at rm
      have hL := F.2.2.2.1 x.toNat (by omega)
      obtain ⟨w, hw, ew⟩ : ∃ w : Nat, (w : Int) < z 184 ∧ x = w := ⟨x.toNat, by omega, by omega⟩
      obtain ⟨m, hm, em⟩ : ∃ m : Nat, m < 30 ∧ y = m := ⟨y.toNat, by omega, by omega⟩
      have eP := s_plugsOf R S.bs F hx hy
      rw [if_pos cw] at eP
      have e3 : (iI (30 * x + y)).toNatClampNeg = 30 * w + m := by rw [iI_cl (by omega) (by omega)]; omega
      have tn : x.toNat = w ∧ y.toNat = m := by omega
      rw [tn.1, tn.2] at eP
      have eT := w_tak S.ps RP (w := w) (m := m) (by omega) hm
      rw [← ew, ← em] at eT
      rcases (by omega : v = 0 ∨ v = 1 ∨ v = 2) with rfl | rfl | rfl
      · refine Ans.q (x := iI (z (31 * w + 1 + m))) (h1 := h) I ?_ (QF.refl h) (fun g q => ?_)
        · show f_F_metreOf h 180 (iI x) (iI y) (iI 0) = _
          unfold f_F_metreOf
          rw [f00, rw_, Option.bind_some, if_neg (by decide), r, Option.bind_some, if_neg (by decide), if_pos (by decide), eP, Option.bind_some]
        · have RG := MI.m0 q 0
          have rwg := m_isMetre (MI.mg q) F hx hy
          rw [if_pos cw] at rwg
          obtain ⟨h1, g1, g2, g3⟩ := m_share (Or.inl rfl) F _ RG
          have R1 : RepM h1 201 z := RG.fr (g3 _ (by decide) (by decide) (by decide))
          show ∃ h2, f_M_metreOf g 200 (iI x) (iI y) (iI 0) = some (iI (z (31 * w + 1 + m)), h2) ∧ QmA g h2
          have e := m_plugs R1 (w := w) (m := m) (by omega) hm
          rw [← ew, ← em] at e
          unfold f_M_metreOf
          rw [fA1, rwg, Option.bind_some, if_neg (by decide), rm, Option.bind_some, if_neg (by decide), f_M_metreOf_34, refused0, Option.bind_some]
          dsimp only
          rw [if_pos rfl, fA1, g1, Option.bind_some, if_pos (by decide), e, Option.bind_some]
          exact ⟨h1, rfl, QmA.of (fun i _ n1 n2 n3 => g3 i n1 n2 n3)⟩
      · refine Ans.q (x := iI ((shareZ z).1 (30 * w + m))) (h1 := h) I ?_ (QF.refl h) (fun g q => ?_)
        · show f_F_metreOf h 180 (iI x) (iI y) (iI 1) = _
          unfold f_F_metreOf
          rw [f00, rw_, Option.bind_some, if_neg (by decide), r, Option.bind_some, if_neg (by decide), if_neg (by decide), if_pos (by decide), f01, eT, Option.bind_some]
        · have RG := MI.m0 q 0
          have rwg := m_isMetre (MI.mg q) F hx hy
          rw [if_pos cw] at rwg
          obtain ⟨h1, g1, g2, g3⟩ := m_share (Or.inl rfl) F _ RG
          have R1 : RepM h1 201 z := RG.fr (g3 _ (by decide) (by decide) (by decide))
          show ∃ h2, f_M_metreOf g 200 (iI x) (iI y) (iI 1) = some (iI ((shareZ z).1 (30 * w + m)), h2) ∧ QmA g h2
          unfold f_M_metreOf
          rw [fA1, rwg, Option.bind_some, if_neg (by decide), rm, Option.bind_some, if_neg (by decide), f_M_metreOf_34, refused0, Option.bind_some]
          dsimp only
          rw [if_pos rfl, fA1, g1, Option.bind_some, if_neg (by decide), if_pos (by decide), lI30, iI_mul, iI_add, iI_ib (by omega) (by omega) (by omega), if_pos rfl, e3, fA8, g2.1 _ (by omega)]
          exact ⟨h1, rfl, QmA.of (fun i _ n1 n2 n3 => g3 i n1 n2 n3)⟩
      · refine Ans.q (x := iI (atZ z x y)) (h1 := h) I ?_ (QF.refl h) (fun g q => ?_)
        · show f_F_metreOf h 180 (iI x) (iI y) (iI 2) = _
          unfold f_F_metreOf
          rw [f00, rw_, Option.bind_some, if_neg (by decide), r, Option.bind_some, if_neg (by decide), if_neg (by decide), if_neg (by decide), f0, a_who S R F ⟨by omega, by omega⟩ ⟨by omega, by omega⟩, Option.bind_some]
        · have RG := MI.m0 q 0
          have rwg := m_isMetre (MI.mg q) F hx hy
          rw [if_pos cw] at rwg
          obtain ⟨h1, g1, g2, g3⟩ := m_share (Or.inl rfl) F _ RG
          have R1 : RepM h1 201 z := RG.fr (g3 _ (by decide) (by decide) (by decide))
          show ∃ h2, f_M_metreOf g 200 (iI x) (iI y) (iI 2) = some (iI (atZ z x y), h2) ∧ QmA g h2
          unfold f_M_metreOf
          rw [fA1, rwg, Option.bind_some, if_neg (by decide), rm, Option.bind_some, if_neg (by decide), f_M_metreOf_34, refused0, Option.bind_some]
          dsimp only
          rw [if_pos rfl, fA1, g1, Option.bind_some, if_neg (by decide), if_neg (by decide), m_at R1 F ⟨by omega, by omega⟩ ⟨by omega, by omega⟩, Option.bind_some]
          exact ⟨h1, rfl, QmA.of (fun i _ n1 n2 n3 => g3 i n1 n2 n3)⟩
    · rw [if_neg c] at r
      simp only [if_neg c] at rm
      refine Ans.no (E := "java/lang/IllegalArgumentException") (j := 2) (v := 0) I ?_ (wr22 _ (by decide)) (by decide) ?_
      · show f_F_metreOf h 180 (iI x) (iI y) (iI v) = _
        unfold f_F_metreOf
        rw [f00, rw_, Option.bind_some, if_neg (by decide), r, Option.bind_some, if_pos rfl]
      · show f_M_metreOf h 200 (iI x) (iI y) (iI v) = _
        unfold f_M_metreOf
        rw [fA1, rwm, Option.bind_some, if_neg (by decide), rm, Option.bind_some, if_pos rfl, f_M_metreOf_34, refused2, Option.bind_some]
        dsimp only
        rw [if_neg (by decide)]
  · rw [if_neg cw] at rw_ rwm
    refine Ans.no (E := "java/lang/IndexOutOfBoundsException") (j := 1) (v := 0) I ?_ (wr12 _ _ _) (by decide) ?_
    · show f_F_metreOf h 180 (iI x) (iI y) (iI v) = _
      unfold f_F_metreOf
      rw [f00, rw_, Option.bind_some, if_pos rfl]
    · show f_M_metreOf h 200 (iI x) (iI y) (iI v) = _
      unfold f_M_metreOf
      rw [fA1, rwm, Option.bind_some, if_pos rfl, f_M_metreOf_34, refused1, Option.bind_some]
      dsimp only
      rw [if_neg (by decide)]
end CALLQ2
