/-! what the questions answer, as functions of the row -/
noncomputable def aboF (z : Nat → Int) (v : Int) : Int := if v = 0 then z 184 else if v = 1 then z 185 else if v = 2 then hasZ z else if v = 3 then metZ z else if v = 4 then fmtZ z else if v = 5 then pltZ z else if v = 6 then hdtZ z else if v = 7 then lktZ z else if v = 8 then rtsZ z else if v = 9 then z 189 else if v = 10 then z 186 else if v = 11 then z 187 else if v = 12 then z 188 else rvtZ z / 2
noncomputable def wofF (z : Nat → Int) (w : Nat) (v : Int) : Int := if v = 0 then z (31 * w) else if v = 1 then stwZ z w else if v = 2 then plgZ z w else if v = 3 then hadZ z w else if v = 4 then (rowZ z w).1 else (rowZ z w).2
noncomputable def frfF (z : Nat → Int) (w : Nat) (v : Int) : Int := if v = 0 then freZ z w else z (31 * w) - frwZ z w
noncomputable def mofF (z : Nat → Int) (w m : Nat) (v : Int) : Int := if v = 0 then z (31 * w + 1 + m) else if v = 1 then (shareZ z).1 (30 * w + m) else atZ z w m
noncomputable def dofF (z : Nat → Int) (d : Nat) (v : Int) : Int := if v = 0 then z (124 + 6 * d) else if v = 1 then z (125 + 6 * d) else if v = 2 then z (126 + 6 * d) else if v = 3 then z (127 + 6 * d) else if v = 4 then z (128 + 6 * d) else if v = 5 then (shareZ z).2.1 d else if v = 6 then lackZ z d else if v = 7 then rentZ z d else if v = 8 then z (129 + 6 * d) else if v = 9 then endZ z d else if v = 10 then nbrZ z d else rivZ z d
noncomputable def plfF (z : Nat → Int) (d : Nat) (v : Int) : Int := (shareZ z).2.2 (3 * d + v.toNat)
def setF (z : Nat → Int) (v : Int) : Int := z (190 + v.toNat)

section ASKS
variable {h : HP} {z : Nat → Int} {B : Int}
theorem k_about (RA : RepA h 182 0 184 z) (h13 : h 0 13 = iI (z 188)) (K : OKz B z) {v : Int} (hv : InR v) (c : 0 ≤ v ∧ v ≤ 13) : f_F_about h 180 (iI v) = some (.inl (some (.int (iI (aboF z v)))), h) := by
  obtain ⟨S, R, RP, F⟩ := id RA
  obtain ⟨⟨w1, w2⟩, ⟨n1, n2⟩, -⟩ := id F
  have r := in32 h hv ⟨by decide, by decide⟩ ⟨by decide, by decide⟩ lI0 lI13
  rw [if_pos c] at r
  rcases (by omega : v = 0 ∨ v = 1 ∨ v = 2 ∨ v = 3 ∨ v = 4 ∨ v = 5 ∨ v = 6 ∨ v = 7 ∨ v = 8 ∨ v = 9 ∨ v = 10 ∨ v = 11 ∨ v = 12 ∨ v = 13) with rfl | rfl | rfl | rfl | rfl | rfl | rfl | rfl | rfl | rfl | rfl | rfl | rfl | rfl
  · show f_F_about h 180 (iI 0) = some (.inl (some (.int (iI (z 184)))), h)
    unfold f_F_about
    rw [r, Option.bind_some, if_neg (by decide), if_pos (by decide), f00, R.nw]
  · show f_F_about h 180 (iI 1) = some (.inl (some (.int (iI (z 185)))), h)
    unfold f_F_about
    rw [r, Option.bind_some, if_neg (by decide), if_neg (by decide), if_pos (by decide), f00, R.nd]
  · show f_F_about h 180 (iI 2) = some (.inl (some (.int (iI (hasZ z)))), h)
    unfold f_F_about
    rw [r, Option.bind_some, if_neg (by decide), if_neg (by decide), if_neg (by decide), if_pos (by decide), f0, a_standing S R F, Option.bind_some]
  · show f_F_about h 180 (iI 3) = some (.inl (some (.int (iI (metZ z)))), h)
    unfold f_F_about
    rw [r, Option.bind_some, if_neg (by decide), if_neg (by decide), if_neg (by decide), if_neg (by decide), if_pos (by decide), f0, a_allMetres S R F, Option.bind_some]
  · show f_F_about h 180 (iI 4) = some (.inl (some (.int (iI (fmtZ z)))), h)
    unfold f_F_about
    rw [r, Option.bind_some, if_neg (by decide), if_neg (by decide), if_neg (by decide), if_neg (by decide), if_neg (by decide), if_pos (by decide), f0, a_allFree S R F, Option.bind_some]
  · show f_F_about h 180 (iI 5) = some (.inl (some (.int (iI (pltZ z)))), h)
    unfold f_F_about
    rw [r, Option.bind_some, if_neg (by decide), if_neg (by decide), if_neg (by decide), if_neg (by decide), if_neg (by decide), if_neg (by decide), if_pos (by decide), f0, a_allPlugs S R F, Option.bind_some]
  · show f_F_about h 180 (iI 6) = some (.inl (some (.int (iI (hdtZ z)))), h)
    unfold f_F_about
    rw [r, Option.bind_some, if_neg (by decide), if_neg (by decide), if_neg (by decide), if_neg (by decide), if_neg (by decide), if_neg (by decide), if_neg (by decide), if_pos (by decide), f0, a_allHad S R RP F, Option.bind_some]
  · show f_F_about h 180 (iI 7) = some (.inl (some (.int (iI (lktZ z)))), h)
    unfold f_F_about
    rw [r, Option.bind_some, if_neg (by decide), if_neg (by decide), if_neg (by decide), if_neg (by decide), if_neg (by decide), if_neg (by decide), if_neg (by decide), if_neg (by decide), if_pos (by decide), f0, a_allLack S R RP F, Option.bind_some]
  · show f_F_about h 180 (iI 8) = some (.inl (some (.int (iI (rtsZ z)))), h)
    unfold f_F_about
    rw [r, Option.bind_some, if_neg (by decide), if_neg (by decide), if_neg (by decide), if_neg (by decide), if_neg (by decide), if_neg (by decide), if_neg (by decide), if_neg (by decide), if_neg (by decide), if_pos (by decide), f0, a_rents S R RP F, Option.bind_some]
  · show f_F_about h 180 (iI 9) = some (.inl (some (.int (iI (z 189)))), h)
    unfold f_F_about
    rw [r, Option.bind_some, if_neg (by decide), if_neg (by decide), if_neg (by decide), if_neg (by decide), if_neg (by decide), if_neg (by decide), if_neg (by decide), if_neg (by decide), if_neg (by decide), if_neg (by decide), if_pos (by decide), f0, a_allOwed S R F, Option.bind_some, ← K.2.2]
  · show f_F_about h 180 (iI 10) = some (.inl (some (.int (iI (z 186)))), h)
    unfold f_F_about
    rw [r, Option.bind_some, if_neg (by decide), if_neg (by decide), if_neg (by decide), if_neg (by decide), if_neg (by decide), if_neg (by decide), if_neg (by decide), if_neg (by decide), if_neg (by decide), if_neg (by decide), if_neg (by decide), if_pos (by decide), f00, R.1.2.2.1]
  · show f_F_about h 180 (iI 11) = some (.inl (some (.int (iI (z 187)))), h)
    unfold f_F_about
    rw [r, Option.bind_some, if_neg (by decide), if_neg (by decide), if_neg (by decide), if_neg (by decide), if_neg (by decide), if_neg (by decide), if_neg (by decide), if_neg (by decide), if_neg (by decide), if_neg (by decide), if_neg (by decide), if_neg (by decide), if_pos (by decide), f00, R.1.2.2.2]
  · show f_F_about h 180 (iI 12) = some (.inl (some (.int (iI (z 188)))), h)
    unfold f_F_about
    rw [r, Option.bind_some, if_neg (by decide), if_neg (by decide), if_neg (by decide), if_neg (by decide), if_neg (by decide), if_neg (by decide), if_neg (by decide), if_neg (by decide), if_neg (by decide), if_neg (by decide), if_neg (by decide), if_neg (by decide), if_neg (by decide), if_pos (by decide), f00, h13]
  · show f_F_about h 180 (iI 13) = some (.inl (some (.int (iI (rvtZ z / 2)))), h)
    unfold f_F_about
    rw [r, Option.bind_some, if_neg (by decide), if_neg (by decide), if_neg (by decide), if_neg (by decide), if_neg (by decide), if_neg (by decide), if_neg (by decide), if_neg (by decide), if_neg (by decide), if_neg (by decide), if_neg (by decide), if_neg (by decide), if_neg (by decide), if_neg (by decide), f0, a_rivPairs S R F, Option.bind_some]
theorem k_about_a (RA : RepA h 182 0 184 z) (h13 : h 0 13 = iI (z 188)) (K : OKz B z) {v : Int} (hv : InR v) (c : ¬ (0 ≤ v ∧ v ≤ 13)) : f_F_about h 180 (iI v) = some (.inr "java/lang/IllegalArgumentException", h) := by
  obtain ⟨S, R, RP, F⟩ := id RA
  obtain ⟨⟨w1, w2⟩, ⟨n1, n2⟩, -⟩ := id F
  have r := in32 h hv ⟨by decide, by decide⟩ ⟨by decide, by decide⟩ lI0 lI13
  rw [if_neg c] at r
  show f_F_about h 180 (iI v) = some (.inr "java/lang/IllegalArgumentException", h)
  unfold f_F_about
  rw [r, Option.bind_some, if_pos rfl]
theorem k_wallOf (RA : RepA h 182 0 184 z) (h13 : h 0 13 = iI (z 188)) (K : OKz B z) {x : Int} (hx : InR x) {v : Int} (hv : InR v) (cw : 0 ≤ x ∧ x < z 184) (c : 0 ≤ v ∧ v ≤ 5) : f_F_wallOf h 180 (iI x) (iI v) = some (.inl (some (.int (iI (wofF z x.toNat v)))), h) := by
  obtain ⟨S, R, RP, F⟩ := id RA
  obtain ⟨⟨w1, w2⟩, ⟨n1, n2⟩, -⟩ := id F
  have r := in32 h hv ⟨by decide, by decide⟩ ⟨by decide, by decide⟩ lI0 lI5
  have rw_ := s_hasWall R F hx
  rw [if_pos cw] at rw_
  rw [if_pos c] at r
  have hL := F.2.2.2.1 x.toNat (by omega)
  obtain ⟨w, hw, rfl⟩ : ∃ w : Nat, (w : Int) < z 184 ∧ x = w := ⟨x.toNat, by omega, by omega⟩
  rcases (by omega : v = 0 ∨ v = 1 ∨ v = 2 ∨ v = 3 ∨ v = 4 ∨ v = 5) with rfl | rfl | rfl | rfl | rfl | rfl
  · show f_F_wallOf h 180 (iI w) (iI 0) = some (.inl (some (.int (iI (z (31 * w))))), h)
    unfold f_F_wallOf
    rw [f00, rw_, Option.bind_some, if_neg (by decide), r, Option.bind_some, if_neg (by decide), if_pos (by decide), st_len R S.bs F (w := (w : Int)) ⟨by omega, by omega⟩, Option.bind_some, show (w : Int).toNat = w by omega]
  · show f_F_wallOf h 180 (iI w) (iI 1) = some (.inl (some (.int (iI (stwZ z w)))), h)
    unfold f_F_wallOf
    rw [f00, rw_, Option.bind_some, if_neg (by decide), r, Option.bind_some, if_neg (by decide), if_neg (by decide), if_pos (by decide), f0, a_stAt S R F (x := (w : Int)) ⟨by omega, by omega⟩, Option.bind_some]
  · show f_F_wallOf h 180 (iI w) (iI 2) = some (.inl (some (.int (iI (plgZ z w)))), h)
    unfold f_F_wallOf
    rw [f00, rw_, Option.bind_some, if_neg (by decide), r, Option.bind_some, if_neg (by decide), if_neg (by decide), if_neg (by decide), if_pos (by decide), f0, a_plugsAt S R F hw, Option.bind_some]
  · show f_F_wallOf h 180 (iI w) (iI 3) = some (.inl (some (.int (iI (hadZ z w)))), h)
    unfold f_F_wallOf
    rw [f00, rw_, Option.bind_some, if_neg (by decide), r, Option.bind_some, if_neg (by decide), if_neg (by decide), if_neg (by decide), if_neg (by decide), if_pos (by decide), f0, a_hadAt S R F RP hw, Option.bind_some]
  · show f_F_wallOf h 180 (iI w) (iI 4) = some (.inl (some (.int (iI ((rowZ z w).1)))), h)
    unfold f_F_wallOf
    rw [f00, rw_, Option.bind_some, if_neg (by decide), r, Option.bind_some, if_neg (by decide), if_neg (by decide), if_neg (by decide), if_neg (by decide), if_neg (by decide), if_pos (by decide), f0, a_row S R F hw, Option.bind_some]
  · show f_F_wallOf h 180 (iI w) (iI 5) = some (.inl (some (.int (iI ((rowZ z w).2)))), h)
    unfold f_F_wallOf
    rw [f00, rw_, Option.bind_some, if_neg (by decide), r, Option.bind_some, if_neg (by decide), if_neg (by decide), if_neg (by decide), if_neg (by decide), if_neg (by decide), if_neg (by decide), f0, a_startRow S R F hw, Option.bind_some]
theorem k_wallOf_a (RA : RepA h 182 0 184 z) (h13 : h 0 13 = iI (z 188)) (K : OKz B z) {x : Int} (hx : InR x) {v : Int} (hv : InR v) (cw : 0 ≤ x ∧ x < z 184) (c : ¬ (0 ≤ v ∧ v ≤ 5)) : f_F_wallOf h 180 (iI x) (iI v) = some (.inr "java/lang/IllegalArgumentException", h) := by
  obtain ⟨S, R, RP, F⟩ := id RA
  obtain ⟨⟨w1, w2⟩, ⟨n1, n2⟩, -⟩ := id F
  have r := in32 h hv ⟨by decide, by decide⟩ ⟨by decide, by decide⟩ lI0 lI5
  have rw_ := s_hasWall R F hx
  rw [if_pos cw] at rw_
  rw [if_neg c] at r
  show f_F_wallOf h 180 (iI x) (iI v) = some (.inr "java/lang/IllegalArgumentException", h)
  unfold f_F_wallOf
  rw [f00, rw_, Option.bind_some, if_neg (by decide), r, Option.bind_some, if_pos rfl]
theorem k_wallOf_i (RA : RepA h 182 0 184 z) (h13 : h 0 13 = iI (z 188)) (K : OKz B z) {x : Int} (hx : InR x) {v : Int} (hv : InR v) (cw : ¬ (0 ≤ x ∧ x < z 184)) : f_F_wallOf h 180 (iI x) (iI v) = some (.inr "java/lang/IndexOutOfBoundsException", h) := by
  obtain ⟨S, R, RP, F⟩ := id RA
  obtain ⟨⟨w1, w2⟩, ⟨n1, n2⟩, -⟩ := id F
  have r := in32 h hv ⟨by decide, by decide⟩ ⟨by decide, by decide⟩ lI0 lI5
  have rw_ := s_hasWall R F hx
  rw [if_neg cw] at rw_
  show f_F_wallOf h 180 (iI x) (iI v) = some (.inr "java/lang/IndexOutOfBoundsException", h)
  unfold f_F_wallOf
  rw [f00, rw_, Option.bind_some, if_pos rfl]
theorem k_free (RA : RepA h 182 0 184 z) (h13 : h 0 13 = iI (z 188)) (K : OKz B z) {x : Int} (hx : InR x) {v : Int} (hv : InR v) (cw : 0 ≤ x ∧ x < z 184) (c : 0 ≤ v ∧ v ≤ 1) : f_F_free h 180 (iI x) (iI v) = some (.inl (some (.int (iI (frfF z x.toNat v)))), h) := by
  obtain ⟨S, R, RP, F⟩ := id RA
  obtain ⟨⟨w1, w2⟩, ⟨n1, n2⟩, -⟩ := id F
  have r := in32 h hv ⟨by decide, by decide⟩ ⟨by decide, by decide⟩ lI0 lI1
  have rw_ := s_hasWall R F hx
  rw [if_pos cw] at rw_
  rw [if_pos c] at r
  have hL := F.2.2.2.1 x.toNat (by omega)
  obtain ⟨w, hw, rfl⟩ : ∃ w : Nat, (w : Int) < z 184 ∧ x = w := ⟨x.toNat, by omega, by omega⟩
  rcases (by omega : v = 0 ∨ v = 1) with rfl | rfl
  · show f_F_free h 180 (iI w) (iI 0) = some (.inl (some (.int (iI (freZ z w)))), h)
    unfold f_F_free
    rw [f00, rw_, Option.bind_some, if_neg (by decide), r, Option.bind_some, if_neg (by decide), if_pos (by decide), f0, a_freeM S R F hw, Option.bind_some]
  · show f_F_free h 180 (iI w) (iI 1) = some (.inl (some (.int (iI (z (31 * w) - frwZ z w)))), h)
    unfold f_F_free
    rw [f00, rw_, Option.bind_some, if_neg (by decide), r, Option.bind_some, if_neg (by decide), if_neg (by decide), f0, a_frF S R F (x := (w : Int)) ⟨by omega, by omega⟩, Option.bind_some, show (w : Int).toNat = w by omega]
theorem k_free_a (RA : RepA h 182 0 184 z) (h13 : h 0 13 = iI (z 188)) (K : OKz B z) {x : Int} (hx : InR x) {v : Int} (hv : InR v) (cw : 0 ≤ x ∧ x < z 184) (c : ¬ (0 ≤ v ∧ v ≤ 1)) : f_F_free h 180 (iI x) (iI v) = some (.inr "java/lang/IllegalArgumentException", h) := by
  obtain ⟨S, R, RP, F⟩ := id RA
  obtain ⟨⟨w1, w2⟩, ⟨n1, n2⟩, -⟩ := id F
  have r := in32 h hv ⟨by decide, by decide⟩ ⟨by decide, by decide⟩ lI0 lI1
  have rw_ := s_hasWall R F hx
  rw [if_pos cw] at rw_
  rw [if_neg c] at r
  show f_F_free h 180 (iI x) (iI v) = some (.inr "java/lang/IllegalArgumentException", h)
  unfold f_F_free
  rw [f00, rw_, Option.bind_some, if_neg (by decide), r, Option.bind_some, if_pos rfl]
theorem k_free_i (RA : RepA h 182 0 184 z) (h13 : h 0 13 = iI (z 188)) (K : OKz B z) {x : Int} (hx : InR x) {v : Int} (hv : InR v) (cw : ¬ (0 ≤ x ∧ x < z 184)) : f_F_free h 180 (iI x) (iI v) = some (.inr "java/lang/IndexOutOfBoundsException", h) := by
  obtain ⟨S, R, RP, F⟩ := id RA
  obtain ⟨⟨w1, w2⟩, ⟨n1, n2⟩, -⟩ := id F
  have r := in32 h hv ⟨by decide, by decide⟩ ⟨by decide, by decide⟩ lI0 lI1
  have rw_ := s_hasWall R F hx
  rw [if_neg cw] at rw_
  show f_F_free h 180 (iI x) (iI v) = some (.inr "java/lang/IndexOutOfBoundsException", h)
  unfold f_F_free
  rw [f00, rw_, Option.bind_some, if_pos rfl]
theorem k_metreOf (RA : RepA h 182 0 184 z) (h13 : h 0 13 = iI (z 188)) (K : OKz B z) {x : Int} (hx : InR x) {y : Int} (hy : InR y) {v : Int} (hv : InR v) (cw : 0 ≤ x ∧ x < z 184 ∧ 0 ≤ y ∧ y < z (31 * x.toNat)) (c : 0 ≤ v ∧ v ≤ 2) : f_F_metreOf h 180 (iI x) (iI y) (iI v) = some (.inl (some (.int (iI (mofF z x.toNat y.toNat v)))), h) := by
  obtain ⟨S, R, RP, F⟩ := id RA
  obtain ⟨⟨w1, w2⟩, ⟨n1, n2⟩, -⟩ := id F
  have r := in32 h hv ⟨by decide, by decide⟩ ⟨by decide, by decide⟩ lI0 lI2
  have rw_ := s_hasMetre R S.bs F hx hy
  rw [if_pos cw] at rw_
  rw [if_pos c] at r
  have hL := F.2.2.2.1 x.toNat (by omega)
  obtain ⟨w, hw, ew⟩ : ∃ w : Nat, (w : Int) < z 184 ∧ x = w := ⟨x.toNat, by omega, by omega⟩
  obtain ⟨m, hm, em⟩ : ∃ m : Nat, m < 30 ∧ y = m := ⟨y.toNat, by omega, by omega⟩
  have eP := s_plugsOf R S.bs F hx hy
  rw [if_pos cw] at eP
  have e3 : (iI (30 * x + y)).toNatClampNeg = 30 * w + m := by rw [iI_cl (by omega) (by omega)]; omega
  have tn : x.toNat = w ∧ y.toNat = m := by omega
  rw [tn.1, tn.2] at eP
  have eT := w_tak S.ps RP (w := w) (m := m) (by omega) hm
  rw [← ew, ← em] at eT
  rw [tn.1, tn.2]
  rcases (by omega : v = 0 ∨ v = 1 ∨ v = 2) with rfl | rfl | rfl
  · show f_F_metreOf h 180 (iI x) (iI y) (iI 0) = some (.inl (some (.int (iI (z (31 * w + 1 + m))))), h)
    unfold f_F_metreOf
    rw [f00, rw_, Option.bind_some, if_neg (by decide), r, Option.bind_some, if_neg (by decide), if_pos (by decide), eP, Option.bind_some]
  · show f_F_metreOf h 180 (iI x) (iI y) (iI 1) = some (.inl (some (.int (iI ((shareZ z).1 (30 * w + m))))), h)
    unfold f_F_metreOf
    rw [f00, rw_, Option.bind_some, if_neg (by decide), r, Option.bind_some, if_neg (by decide), if_neg (by decide), if_pos (by decide), f01, eT, Option.bind_some]
  · rw [show mofF z w m 2 = atZ z x y by rw [ew, em]; rfl]
    show f_F_metreOf h 180 (iI x) (iI y) (iI 2) = some (.inl (some (.int (iI (atZ z x y)))), h)
    unfold f_F_metreOf
    rw [f00, rw_, Option.bind_some, if_neg (by decide), r, Option.bind_some, if_neg (by decide), if_neg (by decide), if_neg (by decide), f0, a_who S R F ⟨by omega, by omega⟩ ⟨by omega, by omega⟩, Option.bind_some]
theorem k_metreOf_a (RA : RepA h 182 0 184 z) (h13 : h 0 13 = iI (z 188)) (K : OKz B z) {x : Int} (hx : InR x) {y : Int} (hy : InR y) {v : Int} (hv : InR v) (cw : 0 ≤ x ∧ x < z 184 ∧ 0 ≤ y ∧ y < z (31 * x.toNat)) (c : ¬ (0 ≤ v ∧ v ≤ 2)) : f_F_metreOf h 180 (iI x) (iI y) (iI v) = some (.inr "java/lang/IllegalArgumentException", h) := by
  obtain ⟨S, R, RP, F⟩ := id RA
  obtain ⟨⟨w1, w2⟩, ⟨n1, n2⟩, -⟩ := id F
  have r := in32 h hv ⟨by decide, by decide⟩ ⟨by decide, by decide⟩ lI0 lI2
  have rw_ := s_hasMetre R S.bs F hx hy
  rw [if_pos cw] at rw_
  rw [if_neg c] at r
  show f_F_metreOf h 180 (iI x) (iI y) (iI v) = some (.inr "java/lang/IllegalArgumentException", h)
  unfold f_F_metreOf
  rw [f00, rw_, Option.bind_some, if_neg (by decide), r, Option.bind_some, if_pos rfl]
theorem k_metreOf_i (RA : RepA h 182 0 184 z) (h13 : h 0 13 = iI (z 188)) (K : OKz B z) {x : Int} (hx : InR x) {y : Int} (hy : InR y) {v : Int} (hv : InR v) (cw : ¬ (0 ≤ x ∧ x < z 184 ∧ 0 ≤ y ∧ y < z (31 * x.toNat))) : f_F_metreOf h 180 (iI x) (iI y) (iI v) = some (.inr "java/lang/IndexOutOfBoundsException", h) := by
  obtain ⟨S, R, RP, F⟩ := id RA
  obtain ⟨⟨w1, w2⟩, ⟨n1, n2⟩, -⟩ := id F
  have r := in32 h hv ⟨by decide, by decide⟩ ⟨by decide, by decide⟩ lI0 lI2
  have rw_ := s_hasMetre R S.bs F hx hy
  rw [if_neg cw] at rw_
  show f_F_metreOf h 180 (iI x) (iI y) (iI v) = some (.inr "java/lang/IndexOutOfBoundsException", h)
  unfold f_F_metreOf
  rw [f00, rw_, Option.bind_some, if_pos rfl]
theorem k_dealerOf (RA : RepA h 182 0 184 z) (h13 : h 0 13 = iI (z 188)) (K : OKz B z) {x : Int} (hx : InR x) {v : Int} (hv : InR v) (cw : 0 ≤ x ∧ x < z 185) (c : 0 ≤ v ∧ v ≤ 11) : f_F_dealerOf h 180 (iI x) (iI v) = some (.inl (some (.int (iI (dofF z x.toNat v)))), h) := by
  obtain ⟨S, R, RP, F⟩ := id RA
  obtain ⟨⟨w1, w2⟩, ⟨n1, n2⟩, -⟩ := id F
  have r := in32 h hv ⟨by decide, by decide⟩ ⟨by decide, by decide⟩ lI0 lI11
  have rw_ := s_hasDealer R F hx
  rw [if_pos cw] at rw_
  rw [if_pos c] at r
  obtain ⟨d, h2, rfl⟩ : ∃ d : Nat, (d : Int) < z 185 ∧ x = d := ⟨x.toNat, by omega, by omega⟩
  have hd : d < 10 := by omega
  rcases (by omega : v = 0 ∨ v = 1 ∨ v = 2 ∨ v = 3 ∨ v = 4 ∨ v = 5 ∨ v = 6 ∨ v = 7 ∨ v = 8 ∨ v = 9 ∨ v = 10 ∨ v = 11) with rfl | rfl | rfl | rfl | rfl | rfl | rfl | rfl | rfl | rfl | rfl | rfl
  · show f_F_dealerOf h 180 (iI d) (iI 0) = some (.inl (some (.int (iI (z (124 + 6 * d))))), h)
    unfold f_F_dealerOf
    rw [f00, rw_, Option.bind_some, if_neg (by decide), r, Option.bind_some, if_neg (by decide), if_pos (by decide)]
    rw [e2_ hd, if_pos rfl, e1_ hd, R.q2 S.bs hd h2]
  · show f_F_dealerOf h 180 (iI d) (iI 1) = some (.inl (some (.int (iI (z (125 + 6 * d))))), h)
    unfold f_F_dealerOf
    rw [f00, rw_, Option.bind_some, if_neg (by decide), r, Option.bind_some, if_neg (by decide), if_neg (by decide), if_pos (by decide)]
    rw [e2_ hd, if_pos rfl, e1_ hd, R.q3 S.bs hd h2]
  · show f_F_dealerOf h 180 (iI d) (iI 2) = some (.inl (some (.int (iI (z (126 + 6 * d))))), h)
    unfold f_F_dealerOf
    rw [f00, rw_, Option.bind_some, if_neg (by decide), r, Option.bind_some, if_neg (by decide), if_neg (by decide), if_neg (by decide), if_pos (by decide)]
    rw [e2_ hd, if_pos rfl, e1_ hd, R.q4 S.bs hd h2]
  · show f_F_dealerOf h 180 (iI d) (iI 3) = some (.inl (some (.int (iI (z (127 + 6 * d))))), h)
    unfold f_F_dealerOf
    rw [f00, rw_, Option.bind_some, if_neg (by decide), r, Option.bind_some, if_neg (by decide), if_neg (by decide), if_neg (by decide), if_neg (by decide), if_pos (by decide)]
    rw [e2_ hd, if_pos rfl, e1_ hd, R.q5 S.bs hd h2]
  · show f_F_dealerOf h 180 (iI d) (iI 4) = some (.inl (some (.int (iI (z (128 + 6 * d))))), h)
    unfold f_F_dealerOf
    rw [f00, rw_, Option.bind_some, if_neg (by decide), r, Option.bind_some, if_neg (by decide), if_neg (by decide), if_neg (by decide), if_neg (by decide), if_neg (by decide), if_pos (by decide)]
    rw [e2_ hd, if_pos rfl, e1_ hd, R.q6 S.bs hd h2]
  · show f_F_dealerOf h 180 (iI d) (iI 5) = some (.inl (some (.int (iI ((shareZ z).2.1 d)))), h)
    unfold f_F_dealerOf
    rw [f00, rw_, Option.bind_some, if_neg (by decide), r, Option.bind_some, if_neg (by decide), if_neg (by decide), if_neg (by decide), if_neg (by decide), if_neg (by decide), if_neg (by decide), if_pos (by decide)]
    rw [f01, w_had S.ps RP hd, Option.bind_some]
  · show f_F_dealerOf h 180 (iI d) (iI 6) = some (.inl (some (.int (iI (lackZ z d)))), h)
    unfold f_F_dealerOf
    rw [f00, rw_, Option.bind_some, if_neg (by decide), r, Option.bind_some, if_neg (by decide), if_neg (by decide), if_neg (by decide), if_neg (by decide), if_neg (by decide), if_neg (by decide), if_neg (by decide), if_pos (by decide)]
    rw [f0, a_lack S R RP F hd h2, Option.bind_some]
  · show f_F_dealerOf h 180 (iI d) (iI 7) = some (.inl (some (.int (iI (rentZ z d)))), h)
    unfold f_F_dealerOf
    rw [f00, rw_, Option.bind_some, if_neg (by decide), r, Option.bind_some, if_neg (by decide), if_neg (by decide), if_neg (by decide), if_neg (by decide), if_neg (by decide), if_neg (by decide), if_neg (by decide), if_neg (by decide), if_pos (by decide)]
    rw [f0, a_rent S R RP F hd h2, Option.bind_some]
  · show f_F_dealerOf h 180 (iI d) (iI 8) = some (.inl (some (.int (iI (z (129 + 6 * d))))), h)
    unfold f_F_dealerOf
    rw [f00, rw_, Option.bind_some, if_neg (by decide), r, Option.bind_some, if_neg (by decide), if_neg (by decide), if_neg (by decide), if_neg (by decide), if_neg (by decide), if_neg (by decide), if_neg (by decide), if_neg (by decide), if_neg (by decide), if_pos (by decide)]
    rw [e2_ hd, if_pos rfl, e1_ hd, R.q7 S.bs hd h2]
  · show f_F_dealerOf h 180 (iI d) (iI 9) = some (.inl (some (.int (iI (endZ z d)))), h)
    unfold f_F_dealerOf
    rw [f00, rw_, Option.bind_some, if_neg (by decide), r, Option.bind_some, if_neg (by decide), if_neg (by decide), if_neg (by decide), if_neg (by decide), if_neg (by decide), if_neg (by decide), if_neg (by decide), if_neg (by decide), if_neg (by decide), if_neg (by decide), if_pos (by decide)]
    rw [f0, a_ends S R F hd h2, Option.bind_some]
  · show f_F_dealerOf h 180 (iI d) (iI 10) = some (.inl (some (.int (iI (nbrZ z d)))), h)
    unfold f_F_dealerOf
    rw [f00, rw_, Option.bind_some, if_neg (by decide), r, Option.bind_some, if_neg (by decide), if_neg (by decide), if_neg (by decide), if_neg (by decide), if_neg (by decide), if_neg (by decide), if_neg (by decide), if_neg (by decide), if_neg (by decide), if_neg (by decide), if_neg (by decide), if_pos (by decide)]
    rw [f0, a_nbrs S R F hd h2, Option.bind_some]
  · show f_F_dealerOf h 180 (iI d) (iI 11) = some (.inl (some (.int (iI (rivZ z d)))), h)
    unfold f_F_dealerOf
    rw [f00, rw_, Option.bind_some, if_neg (by decide), r, Option.bind_some, if_neg (by decide), if_neg (by decide), if_neg (by decide), if_neg (by decide), if_neg (by decide), if_neg (by decide), if_neg (by decide), if_neg (by decide), if_neg (by decide), if_neg (by decide), if_neg (by decide), if_neg (by decide)]
    rw [f0, a_rivals S R F hd h2, Option.bind_some]
theorem k_dealerOf_a (RA : RepA h 182 0 184 z) (h13 : h 0 13 = iI (z 188)) (K : OKz B z) {x : Int} (hx : InR x) {v : Int} (hv : InR v) (cw : 0 ≤ x ∧ x < z 185) (c : ¬ (0 ≤ v ∧ v ≤ 11)) : f_F_dealerOf h 180 (iI x) (iI v) = some (.inr "java/lang/IllegalArgumentException", h) := by
  obtain ⟨S, R, RP, F⟩ := id RA
  obtain ⟨⟨w1, w2⟩, ⟨n1, n2⟩, -⟩ := id F
  have r := in32 h hv ⟨by decide, by decide⟩ ⟨by decide, by decide⟩ lI0 lI11
  have rw_ := s_hasDealer R F hx
  rw [if_pos cw] at rw_
  rw [if_neg c] at r
  show f_F_dealerOf h 180 (iI x) (iI v) = some (.inr "java/lang/IllegalArgumentException", h)
  unfold f_F_dealerOf
  rw [f00, rw_, Option.bind_some, if_neg (by decide), r, Option.bind_some, if_pos rfl]
theorem k_dealerOf_i (RA : RepA h 182 0 184 z) (h13 : h 0 13 = iI (z 188)) (K : OKz B z) {x : Int} (hx : InR x) {v : Int} (hv : InR v) (cw : ¬ (0 ≤ x ∧ x < z 185)) : f_F_dealerOf h 180 (iI x) (iI v) = some (.inr "java/lang/IndexOutOfBoundsException", h) := by
  obtain ⟨S, R, RP, F⟩ := id RA
  obtain ⟨⟨w1, w2⟩, ⟨n1, n2⟩, -⟩ := id F
  have r := in32 h hv ⟨by decide, by decide⟩ ⟨by decide, by decide⟩ lI0 lI11
  have rw_ := s_hasDealer R F hx
  rw [if_neg cw] at rw_
  show f_F_dealerOf h 180 (iI x) (iI v) = some (.inr "java/lang/IndexOutOfBoundsException", h)
  unfold f_F_dealerOf
  rw [f00, rw_, Option.bind_some, if_pos rfl]
theorem k_plugOf (RA : RepA h 182 0 184 z) (h13 : h 0 13 = iI (z 188)) (K : OKz B z) {x : Int} (hx : InR x) {v : Int} (hv : InR v) (cw : 0 ≤ x ∧ x < z 185) (c : 0 ≤ v ∧ v ≤ 2) : f_F_plugOf h 180 (iI x) (iI v) = some (.inl (some (.int (iI (plfF z x.toNat v)))), h) := by
  obtain ⟨S, R, RP, F⟩ := id RA
  obtain ⟨⟨w1, w2⟩, ⟨n1, n2⟩, -⟩ := id F
  have r := in32 h hv ⟨by decide, by decide⟩ ⟨by decide, by decide⟩ lI0 lI2
  have rw_ := s_hasDealer R F hx
  rw [if_pos cw] at rw_
  rw [if_pos c] at r
  obtain ⟨d, h2, rfl⟩ : ∃ d : Nat, (d : Int) < z 185 ∧ x = d := ⟨x.toNat, by omega, by omega⟩
  have hd : d < 10 := by omega
  obtain ⟨k, hk, rfl⟩ : ∃ k : Nat, k < 3 ∧ v = k := ⟨v.toNat, by omega, by omega⟩
  have e3 : (iI (3 * (d : Int) + k)).toNatClampNeg = 3 * d + k := by rw [iI_cl (by omega) (by omega)]; omega
  show f_F_plugOf h 180 (iI d) (iI k) = some (.inl (some (.int (iI ((shareZ z).2.2 (3 * d + k))))), h)
  unfold f_F_plugOf
  rw [f00, rw_, Option.bind_some, if_neg (by decide), r, Option.bind_some, if_neg (by decide), f01, w_plug S.ps F RP hd hk, Option.bind_some]
theorem k_plugOf_a (RA : RepA h 182 0 184 z) (h13 : h 0 13 = iI (z 188)) (K : OKz B z) {x : Int} (hx : InR x) {v : Int} (hv : InR v) (cw : 0 ≤ x ∧ x < z 185) (c : ¬ (0 ≤ v ∧ v ≤ 2)) : f_F_plugOf h 180 (iI x) (iI v) = some (.inr "java/lang/IllegalArgumentException", h) := by
  obtain ⟨S, R, RP, F⟩ := id RA
  obtain ⟨⟨w1, w2⟩, ⟨n1, n2⟩, -⟩ := id F
  have r := in32 h hv ⟨by decide, by decide⟩ ⟨by decide, by decide⟩ lI0 lI2
  have rw_ := s_hasDealer R F hx
  rw [if_pos cw] at rw_
  rw [if_neg c] at r
  show f_F_plugOf h 180 (iI x) (iI v) = some (.inr "java/lang/IllegalArgumentException", h)
  unfold f_F_plugOf
  rw [f00, rw_, Option.bind_some, if_neg (by decide), r, Option.bind_some, if_pos rfl]
theorem k_plugOf_i (RA : RepA h 182 0 184 z) (h13 : h 0 13 = iI (z 188)) (K : OKz B z) {x : Int} (hx : InR x) {v : Int} (hv : InR v) (cw : ¬ (0 ≤ x ∧ x < z 185)) : f_F_plugOf h 180 (iI x) (iI v) = some (.inr "java/lang/IndexOutOfBoundsException", h) := by
  obtain ⟨S, R, RP, F⟩ := id RA
  obtain ⟨⟨w1, w2⟩, ⟨n1, n2⟩, -⟩ := id F
  have r := in32 h hv ⟨by decide, by decide⟩ ⟨by decide, by decide⟩ lI0 lI2
  have rw_ := s_hasDealer R F hx
  rw [if_neg cw] at rw_
  show f_F_plugOf h 180 (iI x) (iI v) = some (.inr "java/lang/IndexOutOfBoundsException", h)
  unfold f_F_plugOf
  rw [f00, rw_, Option.bind_some, if_pos rfl]
theorem k_setting (RA : RepA h 182 0 184 z) (h13 : h 0 13 = iI (z 188)) (K : OKz B z) {v : Int} (hv : InR v) (c : 0 ≤ v ∧ v ≤ 5) : f_F_setting h 180 (iI v) = some (.inl (some (.int (iI (setF z v)))), h) := by
  obtain ⟨S, R, RP, F⟩ := id RA
  obtain ⟨⟨w1, w2⟩, ⟨n1, n2⟩, -⟩ := id F
  have r := in32 h hv ⟨by decide, by decide⟩ ⟨by decide, by decide⟩ lI0 lI5
  rw [if_pos c] at r
  obtain ⟨k, hk, rfl⟩ : ∃ k : Nat, k < 6 ∧ v = k := ⟨v.toNat, by omega, by omega⟩
  have e3 : (iI (190 + (k : Int))).toNatClampNeg = 190 + k := by rw [iI_cl (by omega) (by omega)]; omega
  have e4 : (iI (k : Int)).toNatClampNeg = k := by rw [iI_cl (by omega) (by omega)]; omega
  show f_F_setting h 180 (iI k) = some (.inl (some (.int (iI (z (190 + k))))), h)
  unfold f_F_setting
  rw [r, Option.bind_some, if_neg (by decide), iI_ib (by omega) (by omega) (by omega), if_pos rfl, f00, e4, S.bs.fld, show 0 + 1 + 8 = 0 + 9 from rfl, R.st hk]
theorem k_setting_a (RA : RepA h 182 0 184 z) (h13 : h 0 13 = iI (z 188)) (K : OKz B z) {v : Int} (hv : InR v) (c : ¬ (0 ≤ v ∧ v ≤ 5)) : f_F_setting h 180 (iI v) = some (.inr "java/lang/IllegalArgumentException", h) := by
  obtain ⟨S, R, RP, F⟩ := id RA
  obtain ⟨⟨w1, w2⟩, ⟨n1, n2⟩, -⟩ := id F
  have r := in32 h hv ⟨by decide, by decide⟩ ⟨by decide, by decide⟩ lI0 lI5
  rw [if_neg c] at r
  show f_F_setting h 180 (iI v) = some (.inr "java/lang/IllegalArgumentException", h)
  unfold f_F_setting
  rw [r, Option.bind_some, if_pos rfl]
end ASKS
