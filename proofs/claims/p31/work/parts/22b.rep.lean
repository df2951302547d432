/-! what stands in the world, as whole numbers: a row z of 196 of them -/
def InR (x : Int) : Prop := -2147483648 ≤ x ∧ x < 2147483648
def RepS (h : HP) (b : Nat) (z : Nat → Int) : Prop :=
  (h b 9 = iI (z 184) ∧ h b 10 = iI (z 185) ∧ h b 11 = iI (z 186) ∧ h b 12 = iI (z 187)) ∧
  (∀ w : Nat, w < 4 → h (b + 1) w = iI (z (31 * w))) ∧ (∀ w m : Nat, w < 4 → m < 30 → h (b + 2) (30 * w + m) = iI (z (31 * w + 1 + m))) ∧
  (∀ d k : Nat, d < 10 → (d : Int) < z 185 → k < 6 → h (b + 3 + k) d = iI (z (124 + 6 * d + k))) ∧ (∀ j : Nat, j < 6 → h (b + 9) j = iI (z (190 + j)))
def BS (b : Nat) : Prop := b < 180 ∧ b % 10 = 0
theorem BS.fld {b : Nat} (h : BS b) (k : Nat) : fld b k = b + 1 + k := if_pos h.1
/-- what always holds of a row -/
def WF (z : Nat → Int) : Prop :=
  (0 ≤ z 184 ∧ z 184 ≤ 4) ∧ (0 ≤ z 185 ∧ z 185 ≤ 10) ∧ (0 ≤ z 187 ∧ z 187 ≤ 9) ∧ (∀ w : Nat, w < 4 → 0 ≤ z (31 * w) ∧ z (31 * w) ≤ 30) ∧ (∀ w m : Nat, w < 4 → m < 30 → 0 ≤ z (31 * w + 1 + m) ∧ z (31 * w + 1 + m) ≤ 4) ∧
  (∀ d : Nat, d < 10 → (0 ≤ z (124 + 6 * d) ∧ z (124 + 6 * d) ≤ 5) ∧ ((d : Int) < z 185 → 1 ≤ z (125 + 6 * d)) ∧ (0 ≤ z (125 + 6 * d) ∧ z (125 + 6 * d) ≤ 9) ∧ (0 ≤ z (126 + 6 * d) ∧ z (126 + 6 * d) ≤ 3)) ∧
  (∀ d : Nat, d < 10 → (d : Int) < z 185 → (z (127 + 6 * d) = -1 ∧ z (128 + 6 * d) = -1) ∨ (0 ≤ z (127 + 6 * d) ∧ z (127 + 6 * d) < z 184 ∧ 0 ≤ z (128 + 6 * d) ∧ z (128 + 6 * d) + z (125 + 6 * d) ≤ z (31 * (z (127 + 6 * d)).toNat))) ∧
  (∀ d e : Nat, d < 10 → e < 10 → d ≠ e → (d : Int) < z 185 → (e : Int) < z 185 → z (127 + 6 * d) ≠ -1 → z (127 + 6 * d) = z (127 + 6 * e) → z (128 + 6 * d) + z (125 + 6 * d) ≤ z (128 + 6 * e) ∨ z (128 + 6 * e) + z (125 + 6 * e) ≤ z (128 + 6 * d)) ∧
  (∀ j : Nat, j < 6 → 0 ≤ z (190 + j) ∧ z (190 + j) ≤ 50) ∧ (z 191 ≤ 9 ∧ z 195 ≤ 9)
/-- the owed sums -/
def WO (N : Int) (z : Nat → Int) : Prop := ∀ d : Nat, d < 10 → 0 ≤ z (129 + 6 * d) ∧ z (129 + 6 * d) ≤ N ∧ (z 185 ≤ (d : Int) → z (129 + 6 * d) = 0)
section SMETH
variable {h : HP} {b : Nat} {z : Nat → Int}
theorem RepS.nw (R : RepS h b z) : h b 9 = iI (z 184) := R.1.1
theorem RepS.nd (R : RepS h b z) : h b 10 = iI (z 185) := R.1.2.1
theorem RepS.len (R : RepS h b z) {w : Nat} (hw : w < 4) : h (b + 1) w = iI (z (31 * w)) := R.2.1 w hw
theorem RepS.plg (R : RepS h b z) {w m : Nat} (hw : w < 4) (hm : m < 30) : h (b + 2) (30 * w + m) = iI (z (31 * w + 1 + m)) := R.2.2.1 w m hw hm
theorem RepS.dl (R : RepS h b z) (k : Nat) {d : Nat} (hd : d < 10) (h2 : (d : Int) < z 185) (hk : k < 6) : h (b + 3 + k) d = iI (z (124 + 6 * d + k)) := R.2.2.2.1 d k hd h2 hk
theorem RepS.st (R : RepS h b z) {j : Nat} (hj : j < 6) : h (b + 9) j = iI (z (190 + j)) := R.2.2.2.2 j hj
theorem RepS.st0 (R : RepS h b z) : h (b + 9) 0 = iI (z 190) := R.st (j := 0) (by decide)
theorem RepS.st1 (R : RepS h b z) : h (b + 9) 1 = iI (z 191) := R.st (j := 1) (by decide)
theorem RepS.st2 (R : RepS h b z) : h (b + 9) 2 = iI (z 192) := R.st (j := 2) (by decide)
theorem RepS.st3 (R : RepS h b z) : h (b + 9) 3 = iI (z 193) := R.st (j := 3) (by decide)
theorem RepS.st4 (R : RepS h b z) : h (b + 9) 4 = iI (z 194) := R.st (j := 4) (by decide)
theorem RepS.st5 (R : RepS h b z) : h (b + 9) 5 = iI (z 195) := R.st (j := 5) (by decide)
theorem s_hasWall (R : RepS h b z) (F : WF z) {x : Int} (hx : InR x) : f_S_hasWall h b (iI x) = some (if 0 ≤ x ∧ x < z 184 then 1 else 0) := by
  obtain ⟨x1, x2⟩ := hx
  obtain ⟨⟨w1, w2⟩, -⟩ := F
  unfold f_S_hasWall
  rw [R.nw]
  simp (disch := omega) only [lI0, lI1, lI2, lI3, lI4, lI5, lI6, lI7, lI8, lI9, lI10, lI11, lI12, lI13, lI14, lI16, lI27, lI29, lI30, lI31, lI33, lI48, lI50, lI57, lI60, lI64, lI65, lI72, lI100, lI101, lI102, lI103, lI104, lI105, lI106, lI107, lI108, lI109, lI110, lI111, lI112, lI113, lI114, lI115, lI116, lI117, lI118, lI119, lI120, lI124, lI128, lI184, lI185, lI186, lI187, lI188, lI189, lI190, lI191, lI192, lI193, lI194, lI195, lI196, lI255, lI1000, lI2548, lI10000, iI_lt, iI_le]
  by_cases c1 : x < 0
  · rw [if_pos c1, if_neg (by omega)]
  · rw [if_neg c1]
    by_cases c2 : z 184 ≤ x
    · rw [if_pos c2, if_neg (by omega)]
    · rw [if_neg c2, if_neg (by omega), if_pos (by omega)]
theorem s_hasMetre (R : RepS h b z) (B : BS b) (F : WF z) {x y : Int} (hx : InR x) (hy : InR y) : f_S_hasMetre h b (iI x) (iI y) = some (if 0 ≤ x ∧ x < z 184 ∧ 0 ≤ y ∧ y < z (31 * x.toNat) then 1 else 0) := by
  obtain ⟨x1, x2⟩ := hx
  obtain ⟨y1, y2⟩ := hy
  obtain ⟨⟨w1, w2⟩, -, -, hl, -⟩ := F
  unfold f_S_hasMetre
  rw [R.nw, B.fld]
  by_cases c1 : x < 0
  · simp (disch := omega) only [lI0, lI1, lI2, lI3, lI4, lI5, lI6, lI7, lI8, lI9, lI10, lI11, lI12, lI13, lI14, lI16, lI27, lI29, lI30, lI31, lI33, lI48, lI50, lI57, lI60, lI64, lI65, lI72, lI100, lI101, lI102, lI103, lI104, lI105, lI106, lI107, lI108, lI109, lI110, lI111, lI112, lI113, lI114, lI115, lI116, lI117, lI118, lI119, lI120, lI124, lI128, lI184, lI185, lI186, lI187, lI188, lI189, lI190, lI191, lI192, lI193, lI194, lI195, lI196, lI255, lI1000, lI2548, lI10000, iI_lt, iI_le]
    rw [if_pos c1, if_neg (by omega)]
  · by_cases c2 : z 184 ≤ x
    · simp (disch := omega) only [lI0, lI1, lI2, lI3, lI4, lI5, lI6, lI7, lI8, lI9, lI10, lI11, lI12, lI13, lI14, lI16, lI27, lI29, lI30, lI31, lI33, lI48, lI50, lI57, lI60, lI64, lI65, lI72, lI100, lI101, lI102, lI103, lI104, lI105, lI106, lI107, lI108, lI109, lI110, lI111, lI112, lI113, lI114, lI115, lI116, lI117, lI118, lI119, lI120, lI124, lI128, lI184, lI185, lI186, lI187, lI188, lI189, lI190, lI191, lI192, lI193, lI194, lI195, lI196, lI255, lI1000, lI2548, lI10000, iI_lt, iI_le]
      rw [if_neg c1, if_pos c2, if_neg (by omega)]
    · have hL := hl x.toNat (by omega)
      have e1 : (iI x).toNatClampNeg = x.toNat := iI_cl (by omega) (by omega)
      have e2 : ib (iI x) 4 = true := iI_ib (by omega) (by omega) (by omega)
      rw [e1, e2, R.len (by omega)]
      simp (disch := omega) only [lI0, lI1, lI2, lI3, lI4, lI5, lI6, lI7, lI8, lI9, lI10, lI11, lI12, lI13, lI14, lI16, lI27, lI29, lI30, lI31, lI33, lI48, lI50, lI57, lI60, lI64, lI65, lI72, lI100, lI101, lI102, lI103, lI104, lI105, lI106, lI107, lI108, lI109, lI110, lI111, lI112, lI113, lI114, lI115, lI116, lI117, lI118, lI119, lI120, lI124, lI128, lI184, lI185, lI186, lI187, lI188, lI189, lI190, lI191, lI192, lI193, lI194, lI195, lI196, lI255, lI1000, lI2548, lI10000, iI_lt, iI_le]
      rw [if_neg c1, if_neg c2, if_neg (by omega)]
      by_cases c3 : y < 0
      · rw [if_pos c3, if_neg (by omega)]
      · rw [if_neg c3, if_pos trivial]
        by_cases c4 : z (31 * x.toNat) ≤ y
        · rw [if_pos c4, if_neg (by omega)]
        · rw [if_neg c4, if_neg (by omega), if_pos (by omega)]
theorem s_hasDealer (R : RepS h b z) (F : WF z) {x : Int} (hx : InR x) : f_S_hasDealer h b (iI x) = some (if 0 ≤ x ∧ x < z 185 then 1 else 0) := by
  obtain ⟨x1, x2⟩ := hx
  obtain ⟨-, ⟨w1, w2⟩, -⟩ := F
  unfold f_S_hasDealer
  rw [R.nd]
  simp (disch := omega) only [lI0, lI1, lI2, lI3, lI4, lI5, lI6, lI7, lI8, lI9, lI10, lI11, lI12, lI13, lI14, lI16, lI27, lI29, lI30, lI31, lI33, lI48, lI50, lI57, lI60, lI64, lI65, lI72, lI100, lI101, lI102, lI103, lI104, lI105, lI106, lI107, lI108, lI109, lI110, lI111, lI112, lI113, lI114, lI115, lI116, lI117, lI118, lI119, lI120, lI124, lI128, lI184, lI185, lI186, lI187, lI188, lI189, lI190, lI191, lI192, lI193, lI194, lI195, lI196, lI255, lI1000, lI2548, lI10000, iI_lt, iI_le]
  by_cases c1 : x < 0
  · rw [if_pos c1, if_neg (by omega)]
  · rw [if_neg c1]
    by_cases c2 : z 185 ≤ x
    · rw [if_pos c2, if_neg (by omega)]
    · rw [if_neg c2, if_neg (by omega), if_pos (by omega)]
theorem WF.wall (F : WF z) {d : Nat} (hd : d < 10) (h2 : (d : Int) < z 185) : -1 ≤ z (127 + 6 * d) ∧ z (127 + 6 * d) < 4 ∧ -1 ≤ z (128 + 6 * d) ∧ z (128 + 6 * d) < 30 := by
  obtain ⟨⟨w1, w2⟩, -, -, hl, -, hdl, hst, -⟩ := F
  rcases hst d hd h2 with h | ⟨g1, g2, g3, g4⟩
  · omega
  · have := hl (z (127 + 6 * d)).toNat (by omega)
    have := (hdl d hd).2.1 h2
    omega
theorem s_stands (R : RepS h b z) (B : BS b) (F : WF z) {x : Int} (hx : InR x) : f_S_stands h b (iI x) = some (if 0 ≤ x ∧ x < z 185 ∧ z (127 + 6 * x.toNat) ≠ -1 then 1 else 0) := by
  obtain ⟨x1, x2⟩ := hx
  obtain ⟨-, ⟨w1, w2⟩, -⟩ := id F
  unfold f_S_stands
  rw [R.nd, B.fld]
  by_cases c1 : x < 0
  · simp (disch := omega) only [lI0, lI1, lI2, lI3, lI4, lI5, lI6, lI7, lI8, lI9, lI10, lI11, lI12, lI13, lI14, lI16, lI27, lI29, lI30, lI31, lI33, lI48, lI50, lI57, lI60, lI64, lI65, lI72, lI100, lI101, lI102, lI103, lI104, lI105, lI106, lI107, lI108, lI109, lI110, lI111, lI112, lI113, lI114, lI115, lI116, lI117, lI118, lI119, lI120, lI124, lI128, lI184, lI185, lI186, lI187, lI188, lI189, lI190, lI191, lI192, lI193, lI194, lI195, lI196, lI255, lI1000, lI2548, lI10000, iI_lt, iI_le]
    rw [if_pos c1, if_neg (by omega)]
  · by_cases c2 : z 185 ≤ x
    · simp (disch := omega) only [lI0, lI1, lI2, lI3, lI4, lI5, lI6, lI7, lI8, lI9, lI10, lI11, lI12, lI13, lI14, lI16, lI27, lI29, lI30, lI31, lI33, lI48, lI50, lI57, lI60, lI64, lI65, lI72, lI100, lI101, lI102, lI103, lI104, lI105, lI106, lI107, lI108, lI109, lI110, lI111, lI112, lI113, lI114, lI115, lI116, lI117, lI118, lI119, lI120, lI124, lI128, lI184, lI185, lI186, lI187, lI188, lI189, lI190, lI191, lI192, lI193, lI194, lI195, lI196, lI255, lI1000, lI2548, lI10000, iI_lt, iI_le]
      rw [if_neg c1, if_pos c2, if_neg (by omega)]
    · have e1 : (iI x).toNatClampNeg = x.toNat := iI_cl (by omega) (by omega)
      have e2 : ib (iI x) 10 = true := iI_ib (by omega) (by omega) (by omega)
      have e3 := R.dl 3 (d := x.toNat) (by omega) (by omega) (by decide)
      have e4 : h (b + 1 + 5) x.toNat = iI (z (127 + 6 * x.toNat)) := by
        rw [show b + 1 + 5 = b + 3 + 3 by omega, e3]
        congr 2
        omega
      have hW := F.wall (d := x.toNat) (by omega) (by omega)
      rw [e1, e2, e4]
      simp (disch := omega) only [lI0, lI1, lI2, lI3, lI4, lI5, lI6, lI7, lI8, lI9, lI10, lI11, lI12, lI13, lI14, lI16, lI27, lI29, lI30, lI31, lI33, lI48, lI50, lI57, lI60, lI64, lI65, lI72, lI100, lI101, lI102, lI103, lI104, lI105, lI106, lI107, lI108, lI109, lI110, lI111, lI112, lI113, lI114, lI115, lI116, lI117, lI118, lI119, lI120, lI124, lI128, lI184, lI185, lI186, lI187, lI188, lI189, lI190, lI191, lI192, lI193, lI194, lI195, lI196, lI255, lI1000, lI2548, lI10000, iI_lt, iI_le, iI_neg, iI_add, iI_mul, iI_sub, iI_eq]
      rw [if_neg c1, if_neg c2, if_neg (by omega), if_pos trivial]
      by_cases c3 : z (127 + 6 * x.toNat) = -1
      · rw [if_pos c3, if_neg (by omega)]
      · rw [if_neg c3, if_pos (by omega)]
theorem s_standsAt (R : RepS h b z) (B : BS b) (F : WF z) {x y : Int} (hx : InR x) (hy : InR y) : f_S_standsAt h b (iI x) (iI y) = some (if 0 ≤ x ∧ x < z 185 ∧ z (127 + 6 * x.toNat) = y ∧ y ≠ -1 then 1 else 0) := by
  obtain ⟨x1, x2⟩ := hx
  obtain ⟨y1, y2⟩ := hy
  obtain ⟨-, ⟨w1, w2⟩, -⟩ := id F
  unfold f_S_standsAt
  rw [R.nd, B.fld]
  by_cases c1 : x < 0
  · simp (disch := omega) only [lI0, lI1, lI2, lI3, lI4, lI5, lI6, lI7, lI8, lI9, lI10, lI11, lI12, lI13, lI14, lI16, lI27, lI29, lI30, lI31, lI33, lI48, lI50, lI57, lI60, lI64, lI65, lI72, lI100, lI101, lI102, lI103, lI104, lI105, lI106, lI107, lI108, lI109, lI110, lI111, lI112, lI113, lI114, lI115, lI116, lI117, lI118, lI119, lI120, lI124, lI128, lI184, lI185, lI186, lI187, lI188, lI189, lI190, lI191, lI192, lI193, lI194, lI195, lI196, lI255, lI1000, lI2548, lI10000, iI_lt, iI_le]
    rw [if_pos c1, if_neg (by omega)]
  · by_cases c2 : z 185 ≤ x
    · simp (disch := omega) only [lI0, lI1, lI2, lI3, lI4, lI5, lI6, lI7, lI8, lI9, lI10, lI11, lI12, lI13, lI14, lI16, lI27, lI29, lI30, lI31, lI33, lI48, lI50, lI57, lI60, lI64, lI65, lI72, lI100, lI101, lI102, lI103, lI104, lI105, lI106, lI107, lI108, lI109, lI110, lI111, lI112, lI113, lI114, lI115, lI116, lI117, lI118, lI119, lI120, lI124, lI128, lI184, lI185, lI186, lI187, lI188, lI189, lI190, lI191, lI192, lI193, lI194, lI195, lI196, lI255, lI1000, lI2548, lI10000, iI_lt, iI_le]
      rw [if_neg c1, if_pos c2, if_neg (by omega)]
    · have e1 : (iI x).toNatClampNeg = x.toNat := iI_cl (by omega) (by omega)
      have e2 : ib (iI x) 10 = true := iI_ib (by omega) (by omega) (by omega)
      have e3 := R.dl 3 (d := x.toNat) (by omega) (by omega) (by decide)
      have e4 : h (b + 1 + 5) x.toNat = iI (z (127 + 6 * x.toNat)) := by
        rw [show b + 1 + 5 = b + 3 + 3 by omega, e3]
        congr 2
        omega
      have hW := F.wall (d := x.toNat) (by omega) (by omega)
      rw [e1, e2, e4]
      simp (disch := omega) only [lI0, lI1, lI2, lI3, lI4, lI5, lI6, lI7, lI8, lI9, lI10, lI11, lI12, lI13, lI14, lI16, lI27, lI29, lI30, lI31, lI33, lI48, lI50, lI57, lI60, lI64, lI65, lI72, lI100, lI101, lI102, lI103, lI104, lI105, lI106, lI107, lI108, lI109, lI110, lI111, lI112, lI113, lI114, lI115, lI116, lI117, lI118, lI119, lI120, lI124, lI128, lI184, lI185, lI186, lI187, lI188, lI189, lI190, lI191, lI192, lI193, lI194, lI195, lI196, lI255, lI1000, lI2548, lI10000, iI_lt, iI_le, iI_neg, iI_add, iI_mul, iI_sub, iI_eq]
      rw [if_neg c1, if_neg c2, if_neg (by omega), if_pos trivial]
      by_cases c3 : z (127 + 6 * x.toNat) = y
      · rw [if_pos c3]
        by_cases c4 : y = -1
        · rw [if_pos c4, if_neg (by omega)]
        · rw [if_neg c4, if_pos (by omega)]
      · rw [if_neg c3, if_neg (by omega)]
theorem s_lengthOf (R : RepS h b z) (B : BS b) (F : WF z) {x : Int} (hx : InR x) : f_S_lengthOf h b (iI x) = some (iI (if 0 ≤ x ∧ x < z 184 then z (31 * x.toNat) else 0)) := by
  have x12 := hx
  obtain ⟨x1, x2⟩ := x12
  obtain ⟨⟨w1, w2⟩, -⟩ := id F
  unfold f_S_lengthOf
  rw [s_hasWall R F hx, Option.bind_some, B.fld]
  by_cases c : 0 ≤ x ∧ x < z 184
  · have e1 : (iI x).toNatClampNeg = x.toNat := iI_cl (by omega) (by omega)
    have e2 : ib (iI x) 4 = true := iI_ib (by omega) (by omega) (by omega)
    rw [if_pos c, if_pos c, e1, e2, R.len (by omega), if_neg (by decide), if_pos rfl]
  · rw [if_neg c, if_neg c, if_pos rfl, lI0]
theorem s_plugsOf (R : RepS h b z) (B : BS b) (F : WF z) {x y : Int} (hx : InR x) (hy : InR y) : f_S_plugsOf h b (iI x) (iI y) = some (iI (if 0 ≤ x ∧ x < z 184 ∧ 0 ≤ y ∧ y < z (31 * x.toNat) then z (31 * x.toNat + 1 + y.toNat) else 0)) := by
  have x12 := hx
  have y12 := hy
  obtain ⟨x1, x2⟩ := x12
  obtain ⟨y1, y2⟩ := y12
  obtain ⟨⟨w1, w2⟩, -, -, hl, -⟩ := id F
  unfold f_S_plugsOf
  rw [s_hasMetre R B F hx hy, Option.bind_some, B.fld]
  by_cases c : 0 ≤ x ∧ x < z 184 ∧ 0 ≤ y ∧ y < z (31 * x.toNat)
  · have hL := hl x.toNat (by omega)
    rw [if_pos c, if_pos c, if_neg (by decide)]
    simp only [lI0, lI1, lI2, lI3, lI4, lI5, lI6, lI7, lI8, lI9, lI10, lI11, lI12, lI13, lI14, lI16, lI27, lI29, lI30, lI31, lI33, lI48, lI50, lI57, lI60, lI64, lI65, lI72, lI100, lI101, lI102, lI103, lI104, lI105, lI106, lI107, lI108, lI109, lI110, lI111, lI112, lI113, lI114, lI115, lI116, lI117, lI118, lI119, lI120, lI124, lI128, lI184, lI185, lI186, lI187, lI188, lI189, lI190, lI191, lI192, lI193, lI194, lI195, lI196, lI255, lI1000, lI2548, lI10000, iI_mul, iI_add]
    have e1 : (iI (x * 30 + y)).toNatClampNeg = 30 * x.toNat + y.toNat := by
      rw [iI_cl (by omega) (by omega)]
      omega
    have e2 : ib (iI (x * 30 + y)) 120 = true := iI_ib (by omega) (by omega) (by omega)
    rw [e1, e2, if_pos rfl, R.plg (by omega) (by omega)]
  · rw [if_neg c, if_neg c, if_pos rfl, lI0]
end SMETH
