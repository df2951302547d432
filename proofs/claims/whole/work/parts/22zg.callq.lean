/-! the law's calls: questions -/
section CALLQ
variable {h g : HP} {a b p : Nat} {z : Nat → Int} {B : Int}
theorem i32 (x : Int32) : ∃ v : Int, InR v ∧ x = iI v := ⟨x.toInt, iI_rng x, iI_of x⟩
theorem wr1 (E : String) (h : HP) : wrapR [E] 211 (.inr E, h) = some (1, h) := if_pos rfl
theorem wr12 (E E2 : String) (h : HP) : wrapR [E, E2] 211 (.inr E, h) = some (1, h) := if_pos rfl
theorem wr22 {E E2 : String} (h : HP) (n : E ≠ E2) : wrapR [E, E2] 211 (.inr E2, h) = some (2, h) := (if_neg (fun q => n (Option.some.inj q))).trans (if_pos rfl)
theorem f00 : fld (fld 180 0) 0 = 0 := rfl
theorem f01 : fld (fld 180 0) 1 = 184 := rfl
theorem f0 : fld 180 0 = 182 := rfl
theorem in64 (g : HP) {v l u : Int} {L U : Int64} (hv : InR v) (hl : InR l) (hu : InR u) (eL : L = (iI l).toInt64) (eU : U = (iI u).toInt64) : f_M_in g (iI v).toInt64 L U = some (if l ≤ v ∧ v ≤ u then 1 else 0) := by
  rw [eL, eU]
  exact m_in hv hl hu
theorem in32 (g : HP) {v l u : Int} {L U : Int32} (hv : InR v) (hl : InR l) (hu : InR u) (eL : L = iI l) (eU : U = iI u) : f_F_inRange g (iI v) L U = some (if l ≤ v ∧ v ≤ u then 1 else 0) := by
  rw [eL, eU]
  exact inRange hv hl hu
theorem MainI.m0 (I : MainI B h z) (q : QF h g) (v : Int32) : RepM (hset g 200 0 v) 201 z := (I.2.1.fr (q.1 201 (by unfold nImp; omega) (by omega) (by omega))).fr (hset_n _ _ _ (by decide))
theorem MainI.mg (I : MainI B h z) (q : QF h g) : RepM g 201 z := I.2.1.fr (q.1 201 (by unfold nImp; omega) (by omega) (by omega))
theorem q_about (I : INV B h) (v : Int32) : Ans B h ["java/lang/IllegalArgumentException"] (fun h => f_F_about h 180 v) (fun h => f_M_about h 200 v) := by
  obtain ⟨z, MI⟩ := I.1
  obtain ⟨RA, RM, h13, K⟩ := id MI
  obtain ⟨S, R, RP, F⟩ := id RA
  obtain ⟨⟨w1, w2⟩, ⟨n1, n2⟩, -⟩ := id F
  obtain ⟨v, hv, rfl⟩ := i32 v
  have r := in32 h hv ⟨by decide, by decide⟩ ⟨by decide, by decide⟩ lI0 lI13
  have rm := fun g => in64 g hv ⟨by decide, by decide⟩ ⟨by decide, by decide⟩ l640 l6413
  by_cases c : 0 ≤ v ∧ v ≤ 13
  · rw [if_pos c] at r
    simp only [if_pos c] at rm
    rcases (by omega : v = 0 ∨ v = 1 ∨ v = 2 ∨ v = 3 ∨ v = 4 ∨ v = 5 ∨ v = 6 ∨ v = 7 ∨ v = 8 ∨ v = 9 ∨ v = 10 ∨ v = 11 ∨ v = 12 ∨ v = 13) with rfl | rfl | rfl | rfl | rfl | rfl | rfl | rfl | rfl | rfl | rfl | rfl | rfl | rfl
    · refine Ans.q (x := iI (z 184)) (h1 := h) I ?_ (QF.refl h) (fun g q => ?_)
      · show f_F_about h 180 (iI 0) = _
        unfold f_F_about
        rw [r, Option.bind_some, if_neg (by decide), if_pos (by decide), f00, R.nw]
      · have RG := MI.m0 q 0
        show ∃ h2, f_M_about g 200 (iI 0) = some (iI (z 184), h2) ∧ QmA g h2
        unfold f_M_about
        rw [rm, Option.bind_some, if_neg (by decide), f_M_about_18, refused0, Option.bind_some]
        dsimp only
        rw [if_pos rfl, if_pos (by decide), ib_184, if_pos rfl, cl_184, fA1, RG.c184]
        exact ⟨_, rfl, QmA.of (fun i _ _ _ _ => rfl)⟩
    · refine Ans.q (x := iI (z 185)) (h1 := h) I ?_ (QF.refl h) (fun g q => ?_)
      · show f_F_about h 180 (iI 1) = _
        unfold f_F_about
        rw [r, Option.bind_some, if_neg (by decide), if_neg (by decide), if_pos (by decide), f00, R.nd]
      · have RG := MI.m0 q 0
        show ∃ h2, f_M_about g 200 (iI 1) = some (iI (z 185), h2) ∧ QmA g h2
        unfold f_M_about
        rw [rm, Option.bind_some, if_neg (by decide), f_M_about_18, refused0, Option.bind_some]
        dsimp only
        rw [if_pos rfl, if_neg (by decide), if_pos (by decide), ib_185, if_pos rfl, cl_185, fA1, RG.c185]
        exact ⟨_, rfl, QmA.of (fun i _ _ _ _ => rfl)⟩
    · refine Ans.q (x := iI (hasZ z)) (h1 := h) I ?_ (QF.refl h) (fun g q => ?_)
      · show f_F_about h 180 (iI 2) = _
        unfold f_F_about
        rw [r, Option.bind_some, if_neg (by decide), if_neg (by decide), if_neg (by decide), if_pos (by decide), f0, a_standing S R F, Option.bind_some]
      · have RG := MI.m0 q 0
        show ∃ h2, f_M_about g 200 (iI 2) = some (iI (hasZ z), h2) ∧ QmA g h2
        unfold f_M_about
        rw [rm, Option.bind_some, if_neg (by decide), f_M_about_18, refused0, Option.bind_some]
        dsimp only
        rw [if_pos rfl, if_neg (by decide), if_neg (by decide), if_pos (by decide), fA1, m_standing RG F, Option.bind_some]
        exact ⟨_, rfl, QmA.of (fun i _ _ _ _ => rfl)⟩
    · refine Ans.q (x := iI (metZ z)) (h1 := h) I ?_ (QF.refl h) (fun g q => ?_)
      · show f_F_about h 180 (iI 3) = _
        unfold f_F_about
        rw [r, Option.bind_some, if_neg (by decide), if_neg (by decide), if_neg (by decide), if_neg (by decide), if_pos (by decide), f0, a_allMetres S R F, Option.bind_some]
      · have RG := MI.m0 q 0
        show ∃ h2, f_M_about g 200 (iI 3) = some (iI (metZ z), h2) ∧ QmA g h2
        unfold f_M_about
        rw [rm, Option.bind_some, if_neg (by decide), f_M_about_18, refused0, Option.bind_some]
        dsimp only
        rw [if_pos rfl, if_neg (by decide), if_neg (by decide), if_neg (by decide), if_pos (by decide), fA1, m_metres RG F, Option.bind_some]
        exact ⟨_, rfl, QmA.of (fun i _ _ _ _ => rfl)⟩
    · refine Ans.q (x := iI (fmtZ z)) (h1 := h) I ?_ (QF.refl h) (fun g q => ?_)
      · show f_F_about h 180 (iI 4) = _
        unfold f_F_about
        rw [r, Option.bind_some, if_neg (by decide), if_neg (by decide), if_neg (by decide), if_neg (by decide), if_neg (by decide), if_pos (by decide), f0, a_allFree S R F, Option.bind_some]
      · have RG := MI.m0 q 0
        show ∃ h2, f_M_about g 200 (iI 4) = some (iI (fmtZ z), h2) ∧ QmA g h2
        have e := m_sumW RG F (x := 0) (by omega)
        unfold f_M_about
        rw [rm, Option.bind_some, if_neg (by decide), f_M_about_18, refused0, Option.bind_some]
        dsimp only
        rw [if_pos rfl, if_neg (by decide), if_neg (by decide), if_neg (by decide), if_neg (by decide), if_pos (by decide)]
        rw [if_pos rfl] at e
        rw [show f_M_sumWalls (hset g 200 0 0) 200 0 = _ from e, Option.bind_some]
        exact ⟨_, rfl, QmA.of (fun i _ _ _ _ => rfl)⟩
    · refine Ans.q (x := iI (pltZ z)) (h1 := h) I ?_ (QF.refl h) (fun g q => ?_)
      · show f_F_about h 180 (iI 5) = _
        unfold f_F_about
        rw [r, Option.bind_some, if_neg (by decide), if_neg (by decide), if_neg (by decide), if_neg (by decide), if_neg (by decide), if_neg (by decide), if_pos (by decide), f0, a_allPlugs S R F, Option.bind_some]
      · have RG := MI.m0 q 0
        show ∃ h2, f_M_about g 200 (iI 5) = some (iI (pltZ z), h2) ∧ QmA g h2
        have e := m_sumW RG F (x := 1) (by omega)
        unfold f_M_about
        rw [rm, Option.bind_some, if_neg (by decide), f_M_about_18, refused0, Option.bind_some]
        dsimp only
        rw [if_pos rfl, if_neg (by decide), if_neg (by decide), if_neg (by decide), if_neg (by decide), if_neg (by decide), if_pos (by decide)]
        rw [if_neg (by decide)] at e
        rw [show f_M_sumWalls (hset g 200 0 0) 200 1 = _ from e, Option.bind_some]
        exact ⟨_, rfl, QmA.of (fun i _ _ _ _ => rfl)⟩
    · refine Ans.q (x := iI (hdtZ z)) (h1 := h) I ?_ (QF.refl h) (fun g q => ?_)
      · show f_F_about h 180 (iI 6) = _
        unfold f_F_about
        rw [r, Option.bind_some, if_neg (by decide), if_neg (by decide), if_neg (by decide), if_neg (by decide), if_neg (by decide), if_neg (by decide), if_neg (by decide), if_pos (by decide), f0, a_allHad S R RP F, Option.bind_some]
      · have RG := MI.m0 q 0
        show ∃ h2, f_M_about g 200 (iI 6) = some (iI (hdtZ z), h2) ∧ QmA g h2
        obtain ⟨h2, g1, g2⟩ := m_sumD RG F (x := 0) (by omega)
        unfold f_M_about
        rw [rm, Option.bind_some, if_neg (by decide), f_M_about_18, refused0, Option.bind_some]
        dsimp only
        rw [if_pos rfl, if_neg (by decide), if_neg (by decide), if_neg (by decide), if_neg (by decide), if_neg (by decide), if_neg (by decide), if_pos (by decide)]
        rw [show f_M_sumDealers (hset g 200 0 0) 200 0 = _ from g1, Option.bind_some]
        exact ⟨h2, rfl, QmA.of (fun i _ n1 n2 n3 => g2 i n1 n2 n3)⟩
    · refine Ans.q (x := iI (lktZ z)) (h1 := h) I ?_ (QF.refl h) (fun g q => ?_)
      · show f_F_about h 180 (iI 7) = _
        unfold f_F_about
        rw [r, Option.bind_some, if_neg (by decide), if_neg (by decide), if_neg (by decide), if_neg (by decide), if_neg (by decide), if_neg (by decide), if_neg (by decide), if_neg (by decide), if_pos (by decide), f0, a_allLack S R RP F, Option.bind_some]
      · have RG := MI.m0 q 0
        show ∃ h2, f_M_about g 200 (iI 7) = some (iI (lktZ z), h2) ∧ QmA g h2
        obtain ⟨h2, g1, g2⟩ := m_sumD RG F (x := 1) (by omega)
        unfold f_M_about
        rw [rm, Option.bind_some, if_neg (by decide), f_M_about_18, refused0, Option.bind_some]
        dsimp only
        rw [if_pos rfl, if_neg (by decide), if_neg (by decide), if_neg (by decide), if_neg (by decide), if_neg (by decide), if_neg (by decide), if_neg (by decide), if_pos (by decide)]
        rw [show f_M_sumDealers (hset g 200 0 0) 200 1 = _ from g1, Option.bind_some]
        exact ⟨h2, rfl, QmA.of (fun i _ n1 n2 n3 => g2 i n1 n2 n3)⟩
    · refine Ans.q (x := iI (rtsZ z)) (h1 := h) I ?_ (QF.refl h) (fun g q => ?_)
      · show f_F_about h 180 (iI 8) = _
        unfold f_F_about
        rw [r, Option.bind_some, if_neg (by decide), if_neg (by decide), if_neg (by decide), if_neg (by decide), if_neg (by decide), if_neg (by decide), if_neg (by decide), if_neg (by decide), if_neg (by decide), if_pos (by decide), f0, a_rents S R RP F, Option.bind_some]
      · have RG := MI.m0 q 0
        show ∃ h2, f_M_about g 200 (iI 8) = some (iI (rtsZ z), h2) ∧ QmA g h2
        obtain ⟨h2, g1, g2⟩ := m_rents (Or.inl rfl) RG F
        unfold f_M_about
        rw [rm, Option.bind_some, if_neg (by decide), f_M_about_18, refused0, Option.bind_some]
        dsimp only
        rw [if_pos rfl, if_neg (by decide), if_neg (by decide), if_neg (by decide), if_neg (by decide), if_neg (by decide), if_neg (by decide), if_neg (by decide), if_neg (by decide), if_pos (by decide), fA1, g1, Option.bind_some]
        exact ⟨h2, rfl, QmA.of (fun i _ n1 n2 n3 => g2 i n1 n2 n3)⟩
    · refine Ans.q (x := iI (z 189)) (h1 := h) I ?_ (QF.refl h) (fun g q => ?_)
      · show f_F_about h 180 (iI 9) = _
        unfold f_F_about
        rw [r, Option.bind_some, if_neg (by decide), if_neg (by decide), if_neg (by decide), if_neg (by decide), if_neg (by decide), if_neg (by decide), if_neg (by decide), if_neg (by decide), if_neg (by decide), if_neg (by decide), if_pos (by decide), f0, a_allOwed S R F, Option.bind_some, ← K.2.2]
      · have RG := MI.m0 q 0
        show ∃ h2, f_M_about g 200 (iI 9) = some (iI (z 189), h2) ∧ QmA g h2
        unfold f_M_about
        rw [rm, Option.bind_some, if_neg (by decide), f_M_about_18, refused0, Option.bind_some]
        dsimp only
        rw [if_pos rfl, if_neg (by decide), if_neg (by decide), if_neg (by decide), if_neg (by decide), if_neg (by decide), if_neg (by decide), if_neg (by decide), if_neg (by decide), if_neg (by decide), if_pos (by decide), ib_189, if_pos rfl, cl_189, fA1, RG.c189]
        exact ⟨_, rfl, QmA.of (fun i _ _ _ _ => rfl)⟩
    · refine Ans.q (x := iI (z 186)) (h1 := h) I ?_ (QF.refl h) (fun g q => ?_)
      · show f_F_about h 180 (iI 10) = _
        unfold f_F_about
        rw [r, Option.bind_some, if_neg (by decide), if_neg (by decide), if_neg (by decide), if_neg (by decide), if_neg (by decide), if_neg (by decide), if_neg (by decide), if_neg (by decide), if_neg (by decide), if_neg (by decide), if_neg (by decide), if_pos (by decide), f00, R.1.2.2.1]
      · have RG := MI.m0 q 0
        show ∃ h2, f_M_about g 200 (iI 10) = some (iI (z 186), h2) ∧ QmA g h2
        unfold f_M_about
        rw [rm, Option.bind_some, if_neg (by decide), f_M_about_18, refused0, Option.bind_some]
        dsimp only
        rw [if_pos rfl, if_neg (by decide), if_neg (by decide), if_neg (by decide), if_neg (by decide), if_neg (by decide), if_neg (by decide), if_neg (by decide), if_neg (by decide), if_neg (by decide), if_neg (by decide), if_pos (by decide), ib_186, if_pos rfl, cl_186, fA1, RG.c186]
        exact ⟨_, rfl, QmA.of (fun i _ _ _ _ => rfl)⟩
    · refine Ans.q (x := iI (z 187)) (h1 := h) I ?_ (QF.refl h) (fun g q => ?_)
      · show f_F_about h 180 (iI 11) = _
        unfold f_F_about
        rw [r, Option.bind_some, if_neg (by decide), if_neg (by decide), if_neg (by decide), if_neg (by decide), if_neg (by decide), if_neg (by decide), if_neg (by decide), if_neg (by decide), if_neg (by decide), if_neg (by decide), if_neg (by decide), if_neg (by decide), if_pos (by decide), f00, R.1.2.2.2]
      · have RG := MI.m0 q 0
        show ∃ h2, f_M_about g 200 (iI 11) = some (iI (z 187), h2) ∧ QmA g h2
        unfold f_M_about
        rw [rm, Option.bind_some, if_neg (by decide), f_M_about_18, refused0, Option.bind_some]
        dsimp only
        rw [if_pos rfl, if_neg (by decide), if_neg (by decide), if_neg (by decide), if_neg (by decide), if_neg (by decide), if_neg (by decide), if_neg (by decide), if_neg (by decide), if_neg (by decide), if_neg (by decide), if_neg (by decide), if_pos (by decide), ib_187, if_pos rfl, cl_187, fA1, RG.c187]
        exact ⟨_, rfl, QmA.of (fun i _ _ _ _ => rfl)⟩
    · refine Ans.q (x := iI (z 188)) (h1 := h) I ?_ (QF.refl h) (fun g q => ?_)
      · show f_F_about h 180 (iI 12) = _
        unfold f_F_about
        rw [r, Option.bind_some, if_neg (by decide), if_neg (by decide), if_neg (by decide), if_neg (by decide), if_neg (by decide), if_neg (by decide), if_neg (by decide), if_neg (by decide), if_neg (by decide), if_neg (by decide), if_neg (by decide), if_neg (by decide), if_neg (by decide), if_pos (by decide), f00, h13]
      · have RG := MI.m0 q 0
        show ∃ h2, f_M_about g 200 (iI 12) = some (iI (z 188), h2) ∧ QmA g h2
        unfold f_M_about
        rw [rm, Option.bind_some, if_neg (by decide), f_M_about_18, refused0, Option.bind_some]
        dsimp only
        rw [if_pos rfl, if_neg (by decide), if_neg (by decide), if_neg (by decide), if_neg (by decide), if_neg (by decide), if_neg (by decide), if_neg (by decide), if_neg (by decide), if_neg (by decide), if_neg (by decide), if_neg (by decide), if_neg (by decide), if_pos (by decide), ib_188, if_pos rfl, cl_188, fA1, RG.c188]
        exact ⟨_, rfl, QmA.of (fun i _ _ _ _ => rfl)⟩
    · refine Ans.q (x := iI (rvtZ z / 2)) (h1 := h) I ?_ (QF.refl h) (fun g q => ?_)
      · show f_F_about h 180 (iI 13) = _
        unfold f_F_about
        rw [r, Option.bind_some, if_neg (by decide), if_neg (by decide), if_neg (by decide), if_neg (by decide), if_neg (by decide), if_neg (by decide), if_neg (by decide), if_neg (by decide), if_neg (by decide), if_neg (by decide), if_neg (by decide), if_neg (by decide), if_neg (by decide), if_neg (by decide), f0, a_rivPairs S R F, Option.bind_some]
      · have RG := MI.m0 q 0
        show ∃ h2, f_M_about g 200 (iI 13) = some (iI (rvtZ z / 2), h2) ∧ QmA g h2
        obtain ⟨h2, g1, g2⟩ := m_sumD RG F (x := 2) (by omega)
        unfold f_M_about
        rw [rm, Option.bind_some, if_neg (by decide), f_M_about_18, refused0, Option.bind_some]
        dsimp only
        rw [if_pos rfl, if_neg (by decide), if_neg (by decide), if_neg (by decide), if_neg (by decide), if_neg (by decide), if_neg (by decide), if_neg (by decide), if_neg (by decide), if_neg (by decide), if_neg (by decide), if_neg (by decide), if_neg (by decide), if_neg (by decide)]
        rw [show f_M_sumDealers (hset g 200 0 0) 200 2 = _ from g1, Option.bind_some]
        have hb := rvt_b F (z 185).toNat 0 (by omega)
        have hb2 : 0 ≤ rvtZ z ∧ rvtZ z ≤ 1000 := ⟨hb.1, by unfold rvtZ; omega⟩
        dsimp only
        rw [show sdZ z 2 = rvtZ z from rfl, lI2, iI_div (by omega) (by omega) (by omega) (by omega)]
        exact ⟨h2, rfl, QmA.of (fun i _ n1 n2 n3 => g2 i n1 n2 n3)⟩
  · rw [if_neg c] at r
    simp only [if_neg c] at rm
    refine Ans.no (E := "java/lang/IllegalArgumentException") (j := 1) (v := 0) I ?_ (wr1 _ _) (by decide) ?_
    · show f_F_about h 180 (iI v) = _
      unfold f_F_about
      rw [r, Option.bind_some, if_pos rfl]
    · show f_M_about h 200 (iI v) = _
      unfold f_M_about
      rw [rm, Option.bind_some, if_pos rfl, f_M_about_18, refused1, Option.bind_some]
      dsimp only
      rw [if_neg (by decide)]
end CALLQ
