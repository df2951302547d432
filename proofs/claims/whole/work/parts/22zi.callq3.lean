/-! the law's calls: questions about dealers, plugs, settings -/
section CALLQ3
variable {h g : HP} {a b p : Nat} {z : Nat → Int} {B : Int}
theorem q_dealerOf (I : INV B h) (x v : Int32) : Ans B h ["java/lang/IndexOutOfBoundsException", "java/lang/IllegalArgumentException"] (fun h => f_F_dealerOf h 180 x v) (fun h => f_M_dealerOf h 200 x v) := by
  obtain ⟨z, MI⟩ := I.1
  obtain ⟨RA, RM, h13, K⟩ := id MI
  obtain ⟨S, R, RP, F⟩ := id RA
  obtain ⟨⟨w1, w2⟩, ⟨n1, n2⟩, -⟩ := id F
  obtain ⟨x, hx, rfl⟩ := i32 x
  obtain ⟨v, hv, rfl⟩ := i32 v
  have r := in32 h hv ⟨by decide, by decide⟩ ⟨by decide, by decide⟩ lI0 lI11
  have rm := fun g => in64 g hv ⟨by decide, by decide⟩ ⟨by decide, by decide⟩ l640 l6411
  have rw_ := s_hasDealer R F hx
  have rwm := m_isDealer RM F hx
  by_cases cw : 0 ≤ x ∧ x < z 185
  · rw [if_pos cw] at rw_ rwm
    by_cases c : 0 ≤ v ∧ v ≤ 11
    · rw [if_pos c] at r
      simp only [if_pos c] at rm
      obtain ⟨d, h2, rfl⟩ : ∃ d : Nat, (d : Int) < z 185 ∧ x = d := ⟨x.toNat, by omega, by omega⟩
      have hd : d < 10 := by omega
      rcases (by omega : v = 0 ∨ v = 1 ∨ v = 2 ∨ v = 3 ∨ v = 4 ∨ v = 5 ∨ v = 6 ∨ v = 7 ∨ v = 8 ∨ v = 9 ∨ v = 10 ∨ v = 11) with rfl | rfl | rfl | rfl | rfl | rfl | rfl | rfl | rfl | rfl | rfl | rfl
      · refine Ans.q (x := iI (z (124 + 6 * d))) (h1 := h) I ?_ (QF.refl h) (fun g q => ?_)
        · show f_F_dealerOf h 180 (iI d) (iI 0) = _
          unfold f_F_dealerOf
          rw [f00, rw_, Option.bind_some, if_neg (by decide), r, Option.bind_some, if_neg (by decide), if_pos (by decide)]
          rw [e2_ hd, if_pos rfl, e1_ hd, R.q2 S.bs hd h2]
        · have RG := MI.m0 q 0
          have rwg := m_isDealer (MI.mg q) F hx
          rw [if_pos cw] at rwg
          obtain ⟨h1, g1, g2, g3⟩ := m_share (Or.inl rfl) F _ RG
          have R1 : RepM h1 201 z := RG.fr (g3 _ (by decide) (by decide) (by decide))
          show ∃ h2, f_M_dealerOf g 200 (iI d) (iI 0) = some (iI (z (124 + 6 * d)), h2) ∧ QmA g h2
          unfold f_M_dealerOf
          rw [fA1, rwg, Option.bind_some, if_neg (by decide), rm, Option.bind_some, if_neg (by decide), f_M_dealerOf_33, refused0, Option.bind_some]
          dsimp only
          rw [if_pos rfl, fA1, g1, Option.bind_some, if_neg (by decide), if_neg (by decide), if_neg (by decide), if_neg (by decide), if_neg (by decide), if_neg (by decide), if_neg (by decide)]
          rw [m_spot, Option.bind_some, iI_add, ib_d0 hd, if_pos rfl, R1.d0 hd]
          exact ⟨h1, rfl, QmA.of (fun i _ n1 n2 n3 => g3 i n1 n2 n3)⟩
      · refine Ans.q (x := iI (z (125 + 6 * d))) (h1 := h) I ?_ (QF.refl h) (fun g q => ?_)
        · show f_F_dealerOf h 180 (iI d) (iI 1) = _
          unfold f_F_dealerOf
          rw [f00, rw_, Option.bind_some, if_neg (by decide), r, Option.bind_some, if_neg (by decide), if_neg (by decide), if_pos (by decide)]
          rw [e2_ hd, if_pos rfl, e1_ hd, R.q3 S.bs hd h2]
        · have RG := MI.m0 q 0
          have rwg := m_isDealer (MI.mg q) F hx
          rw [if_pos cw] at rwg
          obtain ⟨h1, g1, g2, g3⟩ := m_share (Or.inl rfl) F _ RG
          have R1 : RepM h1 201 z := RG.fr (g3 _ (by decide) (by decide) (by decide))
          show ∃ h2, f_M_dealerOf g 200 (iI d) (iI 1) = some (iI (z (125 + 6 * d)), h2) ∧ QmA g h2
          unfold f_M_dealerOf
          rw [fA1, rwg, Option.bind_some, if_neg (by decide), rm, Option.bind_some, if_neg (by decide), f_M_dealerOf_33, refused0, Option.bind_some]
          dsimp only
          rw [if_pos rfl, fA1, g1, Option.bind_some, if_neg (by decide), if_neg (by decide), if_neg (by decide), if_neg (by decide), if_neg (by decide), if_neg (by decide), if_neg (by decide)]
          rw [m_spot, Option.bind_some, iI_add, ib_d1 hd, if_pos rfl, R1.d1 hd]
          exact ⟨h1, rfl, QmA.of (fun i _ n1 n2 n3 => g3 i n1 n2 n3)⟩
      · refine Ans.q (x := iI (z (126 + 6 * d))) (h1 := h) I ?_ (QF.refl h) (fun g q => ?_)
        · show f_F_dealerOf h 180 (iI d) (iI 2) = _
          unfold f_F_dealerOf
          rw [f00, rw_, Option.bind_some, if_neg (by decide), r, Option.bind_some, if_neg (by decide), if_neg (by decide), if_neg (by decide), if_pos (by decide)]
          rw [e2_ hd, if_pos rfl, e1_ hd, R.q4 S.bs hd h2]
        · have RG := MI.m0 q 0
          have rwg := m_isDealer (MI.mg q) F hx
          rw [if_pos cw] at rwg
          obtain ⟨h1, g1, g2, g3⟩ := m_share (Or.inl rfl) F _ RG
          have R1 : RepM h1 201 z := RG.fr (g3 _ (by decide) (by decide) (by decide))
          show ∃ h2, f_M_dealerOf g 200 (iI d) (iI 2) = some (iI (z (126 + 6 * d)), h2) ∧ QmA g h2
          unfold f_M_dealerOf
          rw [fA1, rwg, Option.bind_some, if_neg (by decide), rm, Option.bind_some, if_neg (by decide), f_M_dealerOf_33, refused0, Option.bind_some]
          dsimp only
          rw [if_pos rfl, fA1, g1, Option.bind_some, if_neg (by decide), if_neg (by decide), if_neg (by decide), if_neg (by decide), if_neg (by decide), if_neg (by decide), if_neg (by decide)]
          rw [m_spot, Option.bind_some, iI_add, ib_d2 hd, if_pos rfl, R1.d2 hd]
          exact ⟨h1, rfl, QmA.of (fun i _ n1 n2 n3 => g3 i n1 n2 n3)⟩
      · refine Ans.q (x := iI (z (127 + 6 * d))) (h1 := h) I ?_ (QF.refl h) (fun g q => ?_)
        · show f_F_dealerOf h 180 (iI d) (iI 3) = _
          unfold f_F_dealerOf
          rw [f00, rw_, Option.bind_some, if_neg (by decide), r, Option.bind_some, if_neg (by decide), if_neg (by decide), if_neg (by decide), if_neg (by decide), if_pos (by decide)]
          rw [e2_ hd, if_pos rfl, e1_ hd, R.q5 S.bs hd h2]
        · have RG := MI.m0 q 0
          have rwg := m_isDealer (MI.mg q) F hx
          rw [if_pos cw] at rwg
          obtain ⟨h1, g1, g2, g3⟩ := m_share (Or.inl rfl) F _ RG
          have R1 : RepM h1 201 z := RG.fr (g3 _ (by decide) (by decide) (by decide))
          show ∃ h2, f_M_dealerOf g 200 (iI d) (iI 3) = some (iI (z (127 + 6 * d)), h2) ∧ QmA g h2
          unfold f_M_dealerOf
          rw [fA1, rwg, Option.bind_some, if_neg (by decide), rm, Option.bind_some, if_neg (by decide), f_M_dealerOf_33, refused0, Option.bind_some]
          dsimp only
          rw [if_pos rfl, fA1, g1, Option.bind_some, if_neg (by decide), if_neg (by decide), if_neg (by decide), if_neg (by decide), if_neg (by decide), if_neg (by decide), if_neg (by decide)]
          rw [m_spot, Option.bind_some, iI_add, ib_d3 hd, if_pos rfl, R1.d3 hd]
          exact ⟨h1, rfl, QmA.of (fun i _ n1 n2 n3 => g3 i n1 n2 n3)⟩
      · refine Ans.q (x := iI (z (128 + 6 * d))) (h1 := h) I ?_ (QF.refl h) (fun g q => ?_)
        · show f_F_dealerOf h 180 (iI d) (iI 4) = _
          unfold f_F_dealerOf
          rw [f00, rw_, Option.bind_some, if_neg (by decide), r, Option.bind_some, if_neg (by decide), if_neg (by decide), if_neg (by decide), if_neg (by decide), if_neg (by decide), if_pos (by decide)]
          rw [e2_ hd, if_pos rfl, e1_ hd, R.q6 S.bs hd h2]
        · have RG := MI.m0 q 0
          have rwg := m_isDealer (MI.mg q) F hx
          rw [if_pos cw] at rwg
          obtain ⟨h1, g1, g2, g3⟩ := m_share (Or.inl rfl) F _ RG
          have R1 : RepM h1 201 z := RG.fr (g3 _ (by decide) (by decide) (by decide))
          show ∃ h2, f_M_dealerOf g 200 (iI d) (iI 4) = some (iI (z (128 + 6 * d)), h2) ∧ QmA g h2
          unfold f_M_dealerOf
          rw [fA1, rwg, Option.bind_some, if_neg (by decide), rm, Option.bind_some, if_neg (by decide), f_M_dealerOf_33, refused0, Option.bind_some]
          dsimp only
          rw [if_pos rfl, fA1, g1, Option.bind_some, if_neg (by decide), if_neg (by decide), if_neg (by decide), if_neg (by decide), if_neg (by decide), if_neg (by decide), if_neg (by decide)]
          rw [m_spot, Option.bind_some, iI_add, ib_d4 hd, if_pos rfl, R1.d4 hd]
          exact ⟨h1, rfl, QmA.of (fun i _ n1 n2 n3 => g3 i n1 n2 n3)⟩
      · refine Ans.q (x := iI ((shareZ z).2.1 d)) (h1 := h) I ?_ (QF.refl h) (fun g q => ?_)
        · show f_F_dealerOf h 180 (iI d) (iI 5) = _
          unfold f_F_dealerOf
          rw [f00, rw_, Option.bind_some, if_neg (by decide), r, Option.bind_some, if_neg (by decide), if_neg (by decide), if_neg (by decide), if_neg (by decide), if_neg (by decide), if_neg (by decide), if_pos (by decide)]
          rw [f01, w_had S.ps RP hd, Option.bind_some]
        · have RG := MI.m0 q 0
          have rwg := m_isDealer (MI.mg q) F hx
          rw [if_pos cw] at rwg
          obtain ⟨h1, g1, g2, g3⟩ := m_share (Or.inl rfl) F _ RG
          have R1 : RepM h1 201 z := RG.fr (g3 _ (by decide) (by decide) (by decide))
          show ∃ h2, f_M_dealerOf g 200 (iI d) (iI 5) = some (iI ((shareZ z).2.1 d), h2) ∧ QmA g h2
          unfold f_M_dealerOf
          rw [fA1, rwg, Option.bind_some, if_neg (by decide), rm, Option.bind_some, if_neg (by decide), f_M_dealerOf_33, refused0, Option.bind_some]
          dsimp only
          rw [if_pos rfl, fA1, g1, Option.bind_some, if_pos (by decide)]
          rw [e2_ hd, if_pos rfl, fA9, e1_ hd, g2.2.1 d hd]
          exact ⟨h1, rfl, QmA.of (fun i _ n1 n2 n3 => g3 i n1 n2 n3)⟩
      · refine Ans.q (x := iI (lackZ z d)) (h1 := h) I ?_ (QF.refl h) (fun g q => ?_)
        · show f_F_dealerOf h 180 (iI d) (iI 6) = _
          unfold f_F_dealerOf
          rw [f00, rw_, Option.bind_some, if_neg (by decide), r, Option.bind_some, if_neg (by decide), if_neg (by decide), if_neg (by decide), if_neg (by decide), if_neg (by decide), if_neg (by decide), if_neg (by decide), if_pos (by decide)]
          rw [f0, a_lack S R RP F hd h2, Option.bind_some]
        · have RG := MI.m0 q 0
          have rwg := m_isDealer (MI.mg q) F hx
          rw [if_pos cw] at rwg
          obtain ⟨h1, g1, g2, g3⟩ := m_share (Or.inl rfl) F _ RG
          have R1 : RepM h1 201 z := RG.fr (g3 _ (by decide) (by decide) (by decide))
          show ∃ h2, f_M_dealerOf g 200 (iI d) (iI 6) = some (iI (lackZ z d), h2) ∧ QmA g h2
          unfold f_M_dealerOf
          rw [fA1, rwg, Option.bind_some, if_neg (by decide), rm, Option.bind_some, if_neg (by decide), f_M_dealerOf_33, refused0, Option.bind_some]
          dsimp only
          rw [if_pos rfl, fA1, g1, Option.bind_some, if_neg (by decide), if_pos (by decide)]
          rw [m_lacks R1 g2 F hd h2, Option.bind_some]
          exact ⟨h1, rfl, QmA.of (fun i _ n1 n2 n3 => g3 i n1 n2 n3)⟩
      · refine Ans.q (x := iI (rentZ z d)) (h1 := h) I ?_ (QF.refl h) (fun g q => ?_)
        · show f_F_dealerOf h 180 (iI d) (iI 7) = _
          unfold f_F_dealerOf
          rw [f00, rw_, Option.bind_some, if_neg (by decide), r, Option.bind_some, if_neg (by decide), if_neg (by decide), if_neg (by decide), if_neg (by decide), if_neg (by decide), if_neg (by decide), if_neg (by decide), if_neg (by decide), if_pos (by decide)]
          rw [f0, a_rent S R RP F hd h2, Option.bind_some]
        · have RG := MI.m0 q 0
          have rwg := m_isDealer (MI.mg q) F hx
          rw [if_pos cw] at rwg
          obtain ⟨h1, g1, g2, g3⟩ := m_share (Or.inl rfl) F _ RG
          have R1 : RepM h1 201 z := RG.fr (g3 _ (by decide) (by decide) (by decide))
          show ∃ h2, f_M_dealerOf g 200 (iI d) (iI 7) = some (iI (rentZ z d), h2) ∧ QmA g h2
          unfold f_M_dealerOf
          rw [fA1, rwg, Option.bind_some, if_neg (by decide), rm, Option.bind_some, if_neg (by decide), f_M_dealerOf_33, refused0, Option.bind_some]
          dsimp only
          rw [if_pos rfl, fA1, g1, Option.bind_some, if_neg (by decide), if_neg (by decide), if_pos (by decide)]
          rw [m_rent R1 g2 F hd h2, Option.bind_some]
          exact ⟨h1, rfl, QmA.of (fun i _ n1 n2 n3 => g3 i n1 n2 n3)⟩
      · refine Ans.q (x := iI (z (129 + 6 * d))) (h1 := h) I ?_ (QF.refl h) (fun g q => ?_)
        · show f_F_dealerOf h 180 (iI d) (iI 8) = _
          unfold f_F_dealerOf
          rw [f00, rw_, Option.bind_some, if_neg (by decide), r, Option.bind_some, if_neg (by decide), if_neg (by decide), if_neg (by decide), if_neg (by decide), if_neg (by decide), if_neg (by decide), if_neg (by decide), if_neg (by decide), if_neg (by decide), if_pos (by decide)]
          rw [e2_ hd, if_pos rfl, e1_ hd, R.q7 S.bs hd h2]
        · have RG := MI.m0 q 0
          have rwg := m_isDealer (MI.mg q) F hx
          rw [if_pos cw] at rwg
          obtain ⟨h1, g1, g2, g3⟩ := m_share (Or.inl rfl) F _ RG
          have R1 : RepM h1 201 z := RG.fr (g3 _ (by decide) (by decide) (by decide))
          show ∃ h2, f_M_dealerOf g 200 (iI d) (iI 8) = some (iI (z (129 + 6 * d)), h2) ∧ QmA g h2
          unfold f_M_dealerOf
          rw [fA1, rwg, Option.bind_some, if_neg (by decide), rm, Option.bind_some, if_neg (by decide), f_M_dealerOf_33, refused0, Option.bind_some]
          dsimp only
          rw [if_pos rfl, fA1, g1, Option.bind_some, if_neg (by decide), if_neg (by decide), if_neg (by decide), if_pos (by decide)]
          rw [m_spot, Option.bind_some, lI5, iI_add, ib_d5 hd, if_pos rfl, R1.d5 hd]
          exact ⟨h1, rfl, QmA.of (fun i _ n1 n2 n3 => g3 i n1 n2 n3)⟩
      · refine Ans.q (x := iI (endZ z d)) (h1 := h) I ?_ (QF.refl h) (fun g q => ?_)
        · show f_F_dealerOf h 180 (iI d) (iI 9) = _
          unfold f_F_dealerOf
          rw [f00, rw_, Option.bind_some, if_neg (by decide), r, Option.bind_some, if_neg (by decide), if_neg (by decide), if_neg (by decide), if_neg (by decide), if_neg (by decide), if_neg (by decide), if_neg (by decide), if_neg (by decide), if_neg (by decide), if_neg (by decide), if_pos (by decide)]
          rw [f0, a_ends S R F hd h2, Option.bind_some]
        · have RG := MI.m0 q 0
          have rwg := m_isDealer (MI.mg q) F hx
          rw [if_pos cw] at rwg
          obtain ⟨h1, g1, g2, g3⟩ := m_share (Or.inl rfl) F _ RG
          have R1 : RepM h1 201 z := RG.fr (g3 _ (by decide) (by decide) (by decide))
          show ∃ h2, f_M_dealerOf g 200 (iI d) (iI 9) = some (iI (endZ z d), h2) ∧ QmA g h2
          unfold f_M_dealerOf
          rw [fA1, rwg, Option.bind_some, if_neg (by decide), rm, Option.bind_some, if_neg (by decide), f_M_dealerOf_33, refused0, Option.bind_some]
          dsimp only
          rw [if_pos rfl, fA1, g1, Option.bind_some, if_neg (by decide), if_neg (by decide), if_neg (by decide), if_neg (by decide), if_pos (by decide)]
          rw [m_ends R1 F hd h2, Option.bind_some]
          exact ⟨h1, rfl, QmA.of (fun i _ n1 n2 n3 => g3 i n1 n2 n3)⟩
      · refine Ans.q (x := iI (nbrZ z d)) (h1 := h) I ?_ (QF.refl h) (fun g q => ?_)
        · show f_F_dealerOf h 180 (iI d) (iI 10) = _
          unfold f_F_dealerOf
          rw [f00, rw_, Option.bind_some, if_neg (by decide), r, Option.bind_some, if_neg (by decide), if_neg (by decide), if_neg (by decide), if_neg (by decide), if_neg (by decide), if_neg (by decide), if_neg (by decide), if_neg (by decide), if_neg (by decide), if_neg (by decide), if_neg (by decide), if_pos (by decide)]
          rw [f0, a_nbrs S R F hd h2, Option.bind_some]
        · have RG := MI.m0 q 0
          have rwg := m_isDealer (MI.mg q) F hx
          rw [if_pos cw] at rwg
          obtain ⟨h1, g1, g2, g3⟩ := m_share (Or.inl rfl) F _ RG
          have R1 : RepM h1 201 z := RG.fr (g3 _ (by decide) (by decide) (by decide))
          show ∃ h2, f_M_dealerOf g 200 (iI d) (iI 10) = some (iI (nbrZ z d), h2) ∧ QmA g h2
          unfold f_M_dealerOf
          rw [fA1, rwg, Option.bind_some, if_neg (by decide), rm, Option.bind_some, if_neg (by decide), f_M_dealerOf_33, refused0, Option.bind_some]
          dsimp only
          rw [if_pos rfl, fA1, g1, Option.bind_some, if_neg (by decide), if_neg (by decide), if_neg (by decide), if_neg (by decide), if_neg (by decide), if_pos (by decide)]
          rw [lI0, m_nbrs R1 F hd h2, Option.bind_some]
          exact ⟨h1, rfl, QmA.of (fun i _ n1 n2 n3 => g3 i n1 n2 n3)⟩
      · refine Ans.q (x := iI (rivZ z d)) (h1 := h) I ?_ (QF.refl h) (fun g q => ?_)
        · show f_F_dealerOf h 180 (iI d) (iI 11) = _
          unfold f_F_dealerOf
          rw [f00, rw_, Option.bind_some, if_neg (by decide), r, Option.bind_some, if_neg (by decide), if_neg (by decide), if_neg (by decide), if_neg (by decide), if_neg (by decide), if_neg (by decide), if_neg (by decide), if_neg (by decide), if_neg (by decide), if_neg (by decide), if_neg (by decide), if_neg (by decide)]
          rw [f0, a_rivals S R F hd h2, Option.bind_some]
        · have RG := MI.m0 q 0
          have rwg := m_isDealer (MI.mg q) F hx
          rw [if_pos cw] at rwg
          obtain ⟨h1, g1, g2, g3⟩ := m_share (Or.inl rfl) F _ RG
          have R1 : RepM h1 201 z := RG.fr (g3 _ (by decide) (by decide) (by decide))
          show ∃ h2, f_M_dealerOf g 200 (iI d) (iI 11) = some (iI (rivZ z d), h2) ∧ QmA g h2
          unfold f_M_dealerOf
          rw [fA1, rwg, Option.bind_some, if_neg (by decide), rm, Option.bind_some, if_neg (by decide), f_M_dealerOf_33, refused0, Option.bind_some]
          dsimp only
          rw [if_pos rfl, fA1, g1, Option.bind_some, if_neg (by decide), if_neg (by decide), if_neg (by decide), if_neg (by decide), if_neg (by decide), if_neg (by decide), if_pos (by decide)]
          rw [lI1, m_rivals R1 F hd h2, Option.bind_some]
          exact ⟨h1, rfl, QmA.of (fun i _ n1 n2 n3 => g3 i n1 n2 n3)⟩
    · rw [if_neg c] at r
      simp only [if_neg c] at rm
      refine Ans.no (E := "java/lang/IllegalArgumentException") (j := 2) (v := 0) I ?_ (wr22 _ (by decide)) (by decide) ?_
      · show f_F_dealerOf h 180 (iI x) (iI v) = _
        unfold f_F_dealerOf
        rw [f00, rw_, Option.bind_some, if_neg (by decide), r, Option.bind_some, if_pos rfl]
      · show f_M_dealerOf h 200 (iI x) (iI v) = _
        unfold f_M_dealerOf
        rw [fA1, rwm, Option.bind_some, if_neg (by decide), rm, Option.bind_some, if_pos rfl, f_M_dealerOf_33, refused2, Option.bind_some]
        dsimp only
        rw [if_neg (by decide)]
  · rw [if_neg cw] at rw_ rwm
    refine Ans.no (E := "java/lang/IndexOutOfBoundsException") (j := 1) (v := 0) I ?_ (wr12 _ _ _) (by decide) ?_
    · show f_F_dealerOf h 180 (iI x) (iI v) = _
      unfold f_F_dealerOf
      rw [f00, rw_, Option.bind_some, if_pos rfl]
    · show f_M_dealerOf h 200 (iI x) (iI v) = _
      unfold f_M_dealerOf
      rw [fA1, rwm, Option.bind_some, if_pos rfl, f_M_dealerOf_33, refused1, Option.bind_some]
      dsimp only
      rw [if_neg (by decide)]
theorem q_plugOf (I : INV B h) (x v : Int32) : Ans B h ["java/lang/IndexOutOfBoundsException", "java/lang/IllegalArgumentException"] (fun h => f_F_plugOf h 180 x v) (fun h => f_M_plugOf h 200 x v) := by
  obtain ⟨z, MI⟩ := I.1
  obtain ⟨RA, RM, h13, K⟩ := id MI
  obtain ⟨S, R, RP, F⟩ := id RA
  obtain ⟨⟨w1, w2⟩, ⟨n1, n2⟩, -⟩ := id F
  obtain ⟨x, hx, rfl⟩ := i32 x
  obtain ⟨v, hv, rfl⟩ := i32 v
  have r := in32 h hv ⟨by decide, by decide⟩ ⟨by decide, by decide⟩ lI0 lI2
  have rm := fun g => in64 g hv ⟨by decide, by decide⟩ ⟨by decide, by decide⟩ l640 l642
  have rw_ := s_hasDealer R F hx
  have rwm := m_isDealer RM F hx
  by_cases cw : 0 ≤ x ∧ x < z 185
  · rw [if_pos cw] at rw_ rwm
    by_cases c : 0 ≤ v ∧ v ≤ 2
    · rw [if_pos c] at r
      simp only [if_pos c] at rm
      obtain ⟨d, h2, rfl⟩ : ∃ d : Nat, (d : Int) < z 185 ∧ x = d := ⟨x.toNat, by omega, by omega⟩
      have hd : d < 10 := by omega
      obtain ⟨k, hk, rfl⟩ : ∃ k : Nat, k < 3 ∧ v = k := ⟨v.toNat, by omega, by omega⟩
      have e3 : (iI (3 * (d : Int) + k)).toNatClampNeg = 3 * d + k := by rw [iI_cl (by omega) (by omega)]; omega
      refine Ans.q (x := iI ((shareZ z).2.2 (3 * d + k))) (h1 := h) I ?_ (QF.refl h) (fun g q => ?_)
      · show f_F_plugOf h 180 (iI d) (iI k) = _
        unfold f_F_plugOf
        rw [f00, rw_, Option.bind_some, if_neg (by decide), r, Option.bind_some, if_neg (by decide), f01, w_plug S.ps F RP hd hk, Option.bind_some]
      · have RG := MI.m0 q 0
        have rwg := m_isDealer (MI.mg q) F hx
        rw [if_pos cw] at rwg
        obtain ⟨h1, g1, g2, g3⟩ := m_share (Or.inl rfl) F _ RG
        show ∃ h2, f_M_plugOf g 200 (iI d) (iI k) = some (iI ((shareZ z).2.2 (3 * d + k)), h2) ∧ QmA g h2
        unfold f_M_plugOf
        rw [fA1, rwg, Option.bind_some, if_neg (by decide), rm, Option.bind_some, if_neg (by decide), f_M_plugOf_33, refused0, Option.bind_some]
        dsimp only
        rw [if_pos rfl, fA1, g1, Option.bind_some, lI3, iI_mul, iI_add, iI_ib (by omega) (by omega) (by omega), if_pos rfl, fA10, e3, g2.2.2 _ (by omega)]
        exact ⟨h1, rfl, QmA.of (fun i _ n1 n2 n3 => g3 i n1 n2 n3)⟩
    · rw [if_neg c] at r
      simp only [if_neg c] at rm
      refine Ans.no (E := "java/lang/IllegalArgumentException") (j := 2) (v := 0) I ?_ (wr22 _ (by decide)) (by decide) ?_
      · show f_F_plugOf h 180 (iI x) (iI v) = _
        unfold f_F_plugOf
        rw [f00, rw_, Option.bind_some, if_neg (by decide), r, Option.bind_some, if_pos rfl]
      · show f_M_plugOf h 200 (iI x) (iI v) = _
        unfold f_M_plugOf
        rw [fA1, rwm, Option.bind_some, if_neg (by decide), rm, Option.bind_some, if_pos rfl, f_M_plugOf_33, refused2, Option.bind_some]
        dsimp only
        rw [if_neg (by decide)]
  · rw [if_neg cw] at rw_ rwm
    refine Ans.no (E := "java/lang/IndexOutOfBoundsException") (j := 1) (v := 0) I ?_ (wr12 _ _ _) (by decide) ?_
    · show f_F_plugOf h 180 (iI x) (iI v) = _
      unfold f_F_plugOf
      rw [f00, rw_, Option.bind_some, if_pos rfl]
    · show f_M_plugOf h 200 (iI x) (iI v) = _
      unfold f_M_plugOf
      rw [fA1, rwm, Option.bind_some, if_pos rfl, f_M_plugOf_33, refused1, Option.bind_some]
      dsimp only
      rw [if_neg (by decide)]
theorem q_setting (I : INV B h) (v : Int32) : Ans B h ["java/lang/IllegalArgumentException"] (fun h => f_F_setting h 180 v) (fun h => f_M_setting h 200 v) := by
  obtain ⟨z, MI⟩ := I.1
  obtain ⟨RA, RM, h13, K⟩ := id MI
  obtain ⟨S, R, RP, F⟩ := id RA
  obtain ⟨⟨w1, w2⟩, ⟨n1, n2⟩, -⟩ := id F
  obtain ⟨v, hv, rfl⟩ := i32 v
  have r := in32 h hv ⟨by decide, by decide⟩ ⟨by decide, by decide⟩ lI0 lI5
  have rm := fun g => in64 g hv ⟨by decide, by decide⟩ ⟨by decide, by decide⟩ l640 l645
  by_cases c : 0 ≤ v ∧ v ≤ 5
  · rw [if_pos c] at r
    simp only [if_pos c] at rm
    obtain ⟨k, hk, rfl⟩ : ∃ k : Nat, k < 6 ∧ v = k := ⟨v.toNat, by omega, by omega⟩
    have e3 : (iI (190 + (k : Int))).toNatClampNeg = 190 + k := by rw [iI_cl (by omega) (by omega)]; omega
    have e4 : (iI (k : Int)).toNatClampNeg = k := by rw [iI_cl (by omega) (by omega)]; omega
    refine Ans.q (x := iI (z (190 + k))) (h1 := h) I ?_ (QF.refl h) (fun g q => ?_)
    · show f_F_setting h 180 (iI k) = _
      unfold f_F_setting
      rw [r, Option.bind_some, if_neg (by decide), iI_ib (by omega) (by omega) (by omega), if_pos rfl, f00, e4, S.bs.fld, show 0 + 1 + 8 = 0 + 9 from rfl, R.st hk]
    · have RG := MI.m0 q 0
      show ∃ h2, f_M_setting g 200 (iI k) = some (iI (z (190 + k)), h2) ∧ QmA g h2
      unfold f_M_setting
      rw [rm, Option.bind_some, if_neg (by decide), f_M_setting_18, refused0, Option.bind_some]
      dsimp only
      rw [if_pos rfl, lI190, iI_add, iI_ib (by omega) (by omega) (by omega), if_pos rfl, fA1, e3, RG _ (by omega)]
      exact ⟨_, rfl, QmA.of (fun i _ _ _ _ => rfl)⟩
  · rw [if_neg c] at r
    simp only [if_neg c] at rm
    refine Ans.no (E := "java/lang/IllegalArgumentException") (j := 1) (v := 0) I ?_ (wr1 _ _) (by decide) ?_
    · show f_F_setting h 180 (iI v) = _
      unfold f_F_setting
      rw [r, Option.bind_some, if_pos rfl]
    · show f_M_setting h 200 (iI v) = _
      unfold f_M_setting
      rw [rm, Option.bind_some, if_pos rfl, f_M_setting_18, refused1, Option.bind_some]
      dsimp only
      rw [if_neg (by decide)]
end CALLQ3
