/-! what a call asks before it acts, on both sides -/
section ASK
variable {h : HP} {a b p : Nat} {z : Nat → Int}
theorem inr_nat {n : Nat} (h : n < 1000000) : InR (n : Int) := ⟨by omega, by omega⟩
theorem iI64 {x : Int} (hx : InR x) : ((iI x).toInt64).toInt = x := by
  rw [Int32.toInt_toInt64, iI_toInt hx.1 hx.2]
theorem m_in {x l u : Int} (hx : InR x) (hl : InR l) (hu : InR u) : f_M_in h (iI x).toInt64 (iI l).toInt64 (iI u).toInt64 = some (if l ≤ x ∧ x ≤ u then 1 else 0) := by
  unfold f_M_in
  by_cases c1 : x < l
  · rw [if_pos ((lg_cmp_lt _ _).mpr (by rw [Int64.lt_iff_toInt_lt, iI64 hx, iI64 hl]; exact c1)), if_neg (by omega)]
  · rw [if_neg (fun q => c1 (by have := (lg_cmp_lt _ _).mp q; rw [Int64.lt_iff_toInt_lt, iI64 hx, iI64 hl] at this; exact this))]
    by_cases c2 : u < x
    · rw [if_pos ((lg_cmp_gt _ _).mpr (by rw [Int64.lt_iff_toInt_lt, iI64 hx, iI64 hu]; exact c2)), if_neg (by omega)]
    · rw [if_neg (fun q => c2 (by have := (lg_cmp_gt _ _).mp q; rw [Int64.lt_iff_toInt_lt, iI64 hx, iI64 hu] at this; exact this)), if_pos (by omega)]
theorem isB_ite {c : Prop} [Decidable c] : isB (if c then (1 : Int32) else 0) = true := by
  by_cases q : c
  · rw [if_pos q]; rfl
  · rw [if_neg q]; rfl
theorem l640 : (0 : Int64) = (iI 0).toInt64 := by decide
theorem l641 : (1 : Int64) = (iI 1).toInt64 := by decide
theorem l642 : (2 : Int64) = (iI 2).toInt64 := by decide
theorem l643 : (3 : Int64) = (iI 3).toInt64 := by decide
theorem l644 : (4 : Int64) = (iI 4).toInt64 := by decide
theorem l645 : (5 : Int64) = (iI 5).toInt64 := by decide
theorem l649 : (9 : Int64) = (iI 9).toInt64 := by decide
theorem l6411 : (11 : Int64) = (iI 11).toInt64 := by decide
theorem l6413 : (13 : Int64) = (iI 13).toInt64 := by decide
theorem l6430 : (30 : Int64) = (iI 30).toInt64 := by decide
theorem l6450 : (50 : Int64) = (iI 50).toInt64 := by decide
theorem l6460 : (60 : Int64) = (iI 60).toInt64 := by decide
theorem l64255 : (255 : Int64) = (iI 255).toInt64 := by decide
theorem m_isWall (R : RepM h a z) (F : WF z) {x : Int} (hx : InR x) : f_M_isWall h a (iI x) = some (if 0 ≤ x ∧ x < z 184 then 1 else 0) := by
  obtain ⟨⟨w1, w2⟩, -⟩ := id F
  unfold f_M_isWall
  rw [ib_184, if_pos rfl, cl_184, R.c184, lI1, iI_sub, l640, m_in hx ⟨by decide, by decide⟩ ⟨by omega, by omega⟩, Option.bind_some, isB_ite, if_pos rfl]
  by_cases c : 0 ≤ x ∧ x < z 184
  · rw [if_pos c, if_pos (show 0 ≤ x ∧ x ≤ z 184 - 1 by omega), lI1]
  · rw [if_neg c, if_neg (show ¬ (0 ≤ x ∧ x ≤ z 184 - 1) by omega)]
theorem m_isDealer (R : RepM h a z) (F : WF z) {x : Int} (hx : InR x) : f_M_isDealer h a (iI x) = some (if 0 ≤ x ∧ x < z 185 then 1 else 0) := by
  obtain ⟨-, ⟨w1, w2⟩, -⟩ := id F
  unfold f_M_isDealer
  rw [ib_185, if_pos rfl, cl_185, R.c185, lI1, iI_sub, l640, m_in hx ⟨by decide, by decide⟩ ⟨by omega, by omega⟩, Option.bind_some, isB_ite, if_pos rfl]
  by_cases c : 0 ≤ x ∧ x < z 185
  · rw [if_pos c, if_pos (show 0 ≤ x ∧ x ≤ z 185 - 1 by omega), lI1]
  · rw [if_neg c, if_neg (show ¬ (0 ≤ x ∧ x ≤ z 185 - 1) by omega)]
theorem m_isMetre (R : RepM h a z) (F : WF z) {x y : Int} (hx : InR x) (hy : InR y) : f_M_isMetre h a (iI x) (iI y) = some (if 0 ≤ x ∧ x < z 184 ∧ 0 ≤ y ∧ y < z (31 * x.toNat) then 1 else 0) := by
  obtain ⟨⟨w1, w2⟩, -⟩ := id F
  unfold f_M_isMetre
  rw [m_isWall R F hx, Option.bind_some]
  by_cases c : 0 ≤ x ∧ x < z 184
  · have hL := F.2.2.2.1 x.toNat (by omega)
    have e1 : (iI (31 * x)).toNatClampNeg = 31 * x.toNat := by rw [iI_cl (by omega) (by omega)]; omega
    rw [if_pos c, if_neg (by decide), lI31, iI_mul, iI_ib (by omega) (by omega) (by omega), if_pos rfl, e1, R _ (by omega), lI1, iI_sub, l640, m_in hy ⟨by decide, by decide⟩ ⟨by omega, by omega⟩, Option.bind_some]
    by_cases c2 : 0 ≤ y ∧ y < z (31 * x.toNat)
    · rw [if_pos (show 0 ≤ y ∧ y ≤ z (31 * x.toNat) - 1 by omega), if_neg (by decide), if_pos (by omega)]
    · rw [if_neg (show ¬ (0 ≤ y ∧ y ≤ z (31 * x.toNat) - 1) by omega), if_pos rfl, if_neg (by omega), lI0]
  · rw [if_neg c, if_pos rfl, if_neg (by omega)]
theorem m_areDealers (R : RepM h a z) (F : WF z) {x y : Int} (hx : InR x) (hy : InR y) : f_M_areDealers h a (iI x) (iI y) = some (if (0 ≤ x ∧ x < z 185) ∧ 0 ≤ y ∧ y < z 185 then 1 else 0) := by
  unfold f_M_areDealers
  rw [m_isDealer R F hx, Option.bind_some]
  by_cases c : 0 ≤ x ∧ x < z 185
  · rw [if_pos c, if_neg (by decide), m_isDealer R F hy, Option.bind_some]
    by_cases c2 : 0 ≤ y ∧ y < z 185
    · rw [if_pos c2, if_neg (by decide), if_pos ⟨c, c2⟩]
    · rw [if_neg c2, if_pos rfl, if_neg (fun q => c2 q.2)]
  · rw [if_neg c, if_pos rfl, if_neg (fun q => c q.1)]
theorem m_isLength {x : Int} (hx : InR x) : f_M_isLength h (iI x) = some (if 4 ≤ x ∧ x ≤ 30 then 1 else 0) := by
  unfold f_M_isLength
  rw [l644, l6430, m_in hx ⟨by decide, by decide⟩ ⟨by decide, by decide⟩, Option.bind_some, isB_ite, if_pos rfl]
theorem a_isLength {x : Int} (hx : InR x) : f_A_isLength h (iI x) = some (if 4 ≤ x ∧ x ≤ 30 then 1 else 0) := by
  unfold f_A_isLength
  rw [lI4, show (30 : Int32) = iI 30 from lI30, inRange hx ⟨by decide, by decide⟩ ⟨by decide, by decide⟩, Option.bind_some, isB_ite, if_pos rfl]
abbrev kindP (g f w : Int) : Prop := (0 ≤ g ∧ g ≤ 5) ∧ (1 ≤ f ∧ f ≤ 9) ∧ 0 ≤ w ∧ w ≤ 3
theorem m_isKind {g f w : Int} (hg : InR g) (hf : InR f) (hw : InR w) : f_M_isKind h (iI g) (iI f) (iI w) = some (if kindP g f w then 1 else 0) := by
  unfold f_M_isKind
  rw [l640, l645, l641, l649, l643, m_in hg ⟨by decide, by decide⟩ ⟨by decide, by decide⟩, Option.bind_some]
  by_cases c1 : 0 ≤ g ∧ g ≤ 5
  · rw [if_pos c1, if_neg (by decide), m_in hf ⟨by decide, by decide⟩ ⟨by decide, by decide⟩, Option.bind_some]
    by_cases c2 : 1 ≤ f ∧ f ≤ 9
    · rw [if_pos c2, if_neg (by decide), m_in hw ⟨by decide, by decide⟩ ⟨by decide, by decide⟩, Option.bind_some]
      by_cases c3 : 0 ≤ w ∧ w ≤ 3
      · rw [if_pos c3, if_neg (by decide), if_pos ⟨c1, c2, c3⟩]
      · rw [if_neg c3, if_pos rfl, if_neg (fun q => c3 q.2.2)]
    · rw [if_neg c2, if_pos rfl, if_neg (fun q => c2 q.2.1)]
  · rw [if_neg c1, if_pos rfl, if_neg (fun q => c1 q.1)]
theorem a_isDealer {g f w : Int} (hg : InR g) (hf : InR f) (hw : InR w) : f_A_isDealer h (iI g) (iI f) (iI w) = some (if kindP g f w then 1 else 0) := by
  unfold f_A_isDealer
  rw [show (0 : Int32) = iI 0 from lI0, lI5, lI1, lI9, lI3, inRange hg ⟨by decide, by decide⟩ ⟨by decide, by decide⟩, Option.bind_some]
  by_cases c1 : 0 ≤ g ∧ g ≤ 5
  · rw [if_pos c1, if_neg (by decide), inRange hf ⟨by decide, by decide⟩ ⟨by decide, by decide⟩, Option.bind_some]
    by_cases c2 : 1 ≤ f ∧ f ≤ 9
    · rw [if_pos c2, if_neg (by decide), inRange hw ⟨by decide, by decide⟩ ⟨by decide, by decide⟩, Option.bind_some]
      by_cases c3 : 0 ≤ w ∧ w ≤ 3
      · rw [if_pos c3, if_neg (by decide), if_pos ⟨c1, c2, c3⟩]
      · rw [if_neg c3, if_pos (by decide), if_neg (fun q => c3 q.2.2)]
    · rw [if_neg c2, if_pos (by decide), if_neg (fun q => c2 q.2.1)]
  · rw [if_neg c1, if_pos (by decide), if_neg (fun q => c1 q.1)]
abbrev setP (j v : Int) : Prop := (0 ≤ j ∧ j ≤ 5) ∧ 0 ≤ v ∧ v ≤ maxS j.toNat
theorem maxS_b (j : Nat) : 0 ≤ maxS j ∧ maxS j ≤ 50 := by unfold maxS; split <;> omega
theorem a_isSet {j v : Int} (hj : InR j) (hv : InR v) : f_A_isSetting h (iI j) (iI v) = some (if setP j v then 1 else 0) := by
  by_cases c1 : 0 ≤ j ∧ j ≤ 5
  · have e := isSet (h := h) (j := j.toNat) (by omega) hv
    rw [show ((j.toNat : Nat) : Int) = j by omega] at e
    rw [e]
    by_cases c2 : 0 ≤ v ∧ v ≤ maxS j.toNat
    · rw [if_pos c2, if_pos ⟨c1, c2⟩]
    · rw [if_neg c2, if_neg (fun q => c2 q.2)]
  · unfold f_A_isSetting
    rw [show (0 : Int32) = iI 0 from lI0, lI5, inRange hj ⟨by decide, by decide⟩ ⟨by decide, by decide⟩, Option.bind_some, if_neg c1, if_pos lI0.symm.symm, if_neg (fun q => c1 q.1)]
theorem m_isSet {j v : Int} (hj : InR j) (hv : InR v) : f_M_isSetting h (iI j) (iI v) = some (if setP j v then 1 else 0) := by
  have e34 : ∀ u : Int, InR u → f_M_isSetting_34 h (iI v).toInt64 (iI 0).toInt64 (iI u).toInt64 = some (if 0 ≤ v ∧ v ≤ u then 1 else 0) := fun u hu => by
    unfold f_M_isSetting_34
    rw [m_in hv ⟨by decide, by decide⟩ hu, Option.bind_some]
    by_cases c : 0 ≤ v ∧ v ≤ u
    · rw [if_pos c, if_neg (by decide)]
    · rw [if_neg c, if_pos rfl]
  unfold f_M_isSetting
  rw [l640, l645, m_in hj ⟨by decide, by decide⟩ ⟨by decide, by decide⟩, Option.bind_some]
  by_cases c1 : 0 ≤ j ∧ j ≤ 5
  · obtain ⟨j1, j2⟩ := hj
    rw [if_pos c1, if_neg (by decide), lI1, tEq (by omega) (by omega) (by omega) (by omega)]
    by_cases c2 : j = 1
    · rw [if_pos c2, f_M_isSetting_25, l649, e34 9 ⟨by decide, by decide⟩, c2]
      by_cases c : 0 ≤ v ∧ v ≤ 9
      · rw [if_pos c, if_pos ⟨by omega, c⟩, lI1]
      · rw [if_neg c, if_neg (fun q => c q.2)]
    · rw [if_neg c2, lI5, tEq (by omega) (by omega) (by omega) (by omega)]
      by_cases c3 : j = 5
      · rw [if_pos c3, f_M_isSetting_25, l649, e34 9 ⟨by decide, by decide⟩, c3]
        by_cases c : 0 ≤ v ∧ v ≤ 9
        · rw [if_pos c, if_pos ⟨by omega, c⟩, lI1]
        · rw [if_neg c, if_neg (fun q => c q.2)]
      · have em : maxS j.toNat = 50 := if_neg (by omega)
        rw [if_neg c3, l6450, e34 50 ⟨by decide, by decide⟩]
        by_cases c : 0 ≤ v ∧ v ≤ 50
        · rw [if_pos c, if_pos ⟨c1, by rw [em]; exact c⟩, lI1]
        · rw [if_neg c, if_neg (fun q => c (by rw [← em]; exact q.2))]
  · rw [if_neg c1, if_pos rfl, if_neg (fun q => c1 q.1)]
theorem refused (x : Int32) : f_M_refused h 200 x = some (if x = 0 then 0 else 1, hset h 200 0 x) := by
  unfold f_M_refused
  rw [Option.bind_some]
  by_cases c : x = 0
  · rw [if_pos c, if_pos c]
  · rw [if_neg c, if_neg c]
end ASK
