/-! the actions: what they answer and what is so behind them -/
def plcZ (z : Nat → Int) (d : Nat) (w f : Int) : Nat → Int := if rsnP z d w f = 0 then zst z d w f else uI z 188 (z 188 + 1)
def swpZ (z : Nat → Int) (d e : Nat) : Nat → Int := if rsnS z d e = 0 then zsw z d e else uI z 188 (z 188 + 1)
section ACTS
variable {h : HP} {z : Nat → Int} {A : (Nat → Nat → Int) × Nat × (Nat → Bool) × (Nat → Nat → Int) × (Nat → Int) × Nat} {B : Int}
theorem actC2 {B' : Int} (I : CI B h (z, A)) (hB : B ≤ B') : ∃ h1, f_P_remember h 192 0 = some h1 ∧ RepA h1 182 0 184 z ∧ h1 0 13 = iI (z 188) ∧ ∀ z' h2, RepA h2 182 0 184 z' → h2 0 13 = iI (z' 188) → (∀ i, ¬ own 0 184 i → h2 i = h1 i) → OKz B' z' → CI B' h2 (pushA (z, A) z') := actC I hB
theorem k_wall (I : CI B h (z, A)) {v : Int} (hv : InR v) (c : 4 ≤ v ∧ v ≤ 30) (c4 : ¬ z 184 = 4) : ∃ h2, f_F_wall h 180 (iI v) = some (.inl (some (.int (iI (z 184)))), h2) ∧ CI B h2 (pushA (z, A) (zwl z v)) := by
  have RA : RepA h 182 0 184 z := I.1.1
  have h13 : h 0 13 = iI (z 188) := I.1.2.1
  have K : OKz B z := I.1.2.2
  obtain ⟨S, R, RP, F⟩ := id RA
  obtain ⟨⟨w1, w2⟩, ⟨n1, n2⟩, -⟩ := id F
  have r := a_isLength (h := h) hv
  rw [if_pos c] at r
  obtain ⟨h1, g1, A1, e13, fin⟩ := actC2 I (Int.le_refl B)
  obtain ⟨h2, k1, k2, k3, k4⟩ := a_openWall A1 (by omega) c
  have C9 := fin _ h2 k2 (by rw [k4, e13, zwl_n F (by omega) v (by decide) (by omega)]) k3 (K.wl (by omega) c)
  refine ⟨h2, ?_, C9⟩
  try simp only [Int.toNat_natCast]
  show f_F_wall h 180 (iI v) = _
  unfold f_F_wall
  rw [r, Option.bind_some, if_neg (by decide), f00, R.nw, lI4, tLe (by omega) (by omega) (by omega) (by omega), if_neg (by omega), f_F_wall_26, if_neg (by decide), f02, f00, g1, Option.bind_some, f0, k1, Option.bind_some]
theorem k_wall_s (I : CI B h (z, A)) {v : Int} (hv : InR v) (c : 4 ≤ v ∧ v ≤ 30) (c4 : z 184 = 4) : f_F_wall h 180 (iI v) = some (.inr "java/lang/IllegalStateException", h) := by
  have RA : RepA h 182 0 184 z := I.1.1
  have h13 : h 0 13 = iI (z 188) := I.1.2.1
  have K : OKz B z := I.1.2.2
  obtain ⟨S, R, RP, F⟩ := id RA
  obtain ⟨⟨w1, w2⟩, ⟨n1, n2⟩, -⟩ := id F
  have r := a_isLength (h := h) hv
  rw [if_pos c] at r
  show f_F_wall h 180 (iI v) = some (.inr "java/lang/IllegalStateException", h)
  unfold f_F_wall
  rw [r, Option.bind_some, if_neg (by decide), f00, R.nw, lI4, tLe (by omega) (by omega) (by omega) (by omega), if_pos (by omega), f_F_wall_26, if_pos rfl]
theorem k_wall_a (I : CI B h (z, A)) {v : Int} (hv : InR v) (c : ¬ (4 ≤ v ∧ v ≤ 30)) : f_F_wall h 180 (iI v) = some (.inr "java/lang/IllegalArgumentException", h) := by
  have RA : RepA h 182 0 184 z := I.1.1
  have h13 : h 0 13 = iI (z 188) := I.1.2.1
  have K : OKz B z := I.1.2.2
  obtain ⟨S, R, RP, F⟩ := id RA
  obtain ⟨⟨w1, w2⟩, ⟨n1, n2⟩, -⟩ := id F
  have r := a_isLength (h := h) hv
  rw [if_neg c] at r
  show f_F_wall h 180 (iI v) = some (.inr "java/lang/IllegalArgumentException", h)
  unfold f_F_wall
  rw [r, Option.bind_some, if_pos rfl]
theorem k_outlet (I : CI B h (z, A)) {x : Int} (hx : InR x) {y : Int} (hy : InR y) {v : Int} (hv : InR v) (cw : 0 ≤ x ∧ x < z 184 ∧ 0 ≤ y ∧ y < z (31 * x.toNat)) (c : 0 ≤ v ∧ v ≤ 4) : ∃ h2, f_F_outlet h 180 (iI x) (iI y) (iI v) = some (.inl (some (.int (iI (z (31 * x.toNat + 1 + y.toNat))))), h2) ∧ CI B h2 (pushA (z, A) (uI z (31 * x.toNat + 1 + y.toNat) v)) := by
  have RA : RepA h 182 0 184 z := I.1.1
  have h13 : h 0 13 = iI (z 188) := I.1.2.1
  have K : OKz B z := I.1.2.2
  obtain ⟨S, R, RP, F⟩ := id RA
  obtain ⟨⟨w1, w2⟩, ⟨n1, n2⟩, -⟩ := id F
  have r := in32 h hv ⟨by decide, by decide⟩ ⟨by decide, by decide⟩ lI0 lI4
  have rw_ := s_hasMetre R S.bs F hx hy
  rw [if_pos cw] at rw_
  rw [if_pos c] at r
  have hL := F.2.2.2.1 x.toNat (by omega)
  obtain ⟨h1, g1, A1, e13, fin⟩ := actC2 I (Int.le_refl B)
  obtain ⟨h2, k1, k2, k3, k4⟩ := a_putPlugs A1 (w := x.toNat) (m := y.toNat) (by omega) (by omega) c
  rw [show ((x.toNat : Nat) : Int) = x by omega, show ((y.toNat : Nat) : Int) = y by omega] at k1
  have C9 := fin _ h2 k2 (by rw [k4, e13, uI_n _ _ (by omega)]) k3 (K.u k2.2.2.2 ⟨by omega, by omega, by omega⟩)
  refine ⟨h2, ?_, C9⟩
  try simp only [Int.toNat_natCast]
  show f_F_outlet h 180 (iI x) (iI y) (iI v) = _
  unfold f_F_outlet
  rw [f00, rw_, Option.bind_some, if_neg (by decide), r, Option.bind_some, if_neg (by decide), f02, g1, Option.bind_some, f0, k1, Option.bind_some]
theorem k_outlet_a (I : CI B h (z, A)) {x : Int} (hx : InR x) {y : Int} (hy : InR y) {v : Int} (hv : InR v) (cw : 0 ≤ x ∧ x < z 184 ∧ 0 ≤ y ∧ y < z (31 * x.toNat)) (c : ¬ (0 ≤ v ∧ v ≤ 4)) : f_F_outlet h 180 (iI x) (iI y) (iI v) = some (.inr "java/lang/IllegalArgumentException", h) := by
  have RA : RepA h 182 0 184 z := I.1.1
  have h13 : h 0 13 = iI (z 188) := I.1.2.1
  have K : OKz B z := I.1.2.2
  obtain ⟨S, R, RP, F⟩ := id RA
  obtain ⟨⟨w1, w2⟩, ⟨n1, n2⟩, -⟩ := id F
  have r := in32 h hv ⟨by decide, by decide⟩ ⟨by decide, by decide⟩ lI0 lI4
  have rw_ := s_hasMetre R S.bs F hx hy
  rw [if_pos cw] at rw_
  rw [if_neg c] at r
  show f_F_outlet h 180 (iI x) (iI y) (iI v) = some (.inr "java/lang/IllegalArgumentException", h)
  unfold f_F_outlet
  rw [f00, rw_, Option.bind_some, if_neg (by decide), r, Option.bind_some, if_pos rfl]
theorem k_outlet_i (I : CI B h (z, A)) {x : Int} (hx : InR x) {y : Int} (hy : InR y) {v : Int} (hv : InR v) (cw : ¬ (0 ≤ x ∧ x < z 184 ∧ 0 ≤ y ∧ y < z (31 * x.toNat))) : f_F_outlet h 180 (iI x) (iI y) (iI v) = some (.inr "java/lang/IndexOutOfBoundsException", h) := by
  have RA : RepA h 182 0 184 z := I.1.1
  have h13 : h 0 13 = iI (z 188) := I.1.2.1
  have K : OKz B z := I.1.2.2
  obtain ⟨S, R, RP, F⟩ := id RA
  obtain ⟨⟨w1, w2⟩, ⟨n1, n2⟩, -⟩ := id F
  have r := in32 h hv ⟨by decide, by decide⟩ ⟨by decide, by decide⟩ lI0 lI4
  have rw_ := s_hasMetre R S.bs F hx hy
  rw [if_neg cw] at rw_
  show f_F_outlet h 180 (iI x) (iI y) (iI v) = some (.inr "java/lang/IndexOutOfBoundsException", h)
  unfold f_F_outlet
  rw [f00, rw_, Option.bind_some, if_pos rfl]
theorem k_dealer (I : CI B h (z, A)) {x : Int} (hx : InR x) {y : Int} (hy : InR y) {v : Int} (hv : InR v) (c : kindP x y v) (c4 : ¬ z 185 = 10) : ∃ h2, f_F_dealer h 180 (iI x) (iI y) (iI v) = some (.inl (some (.int (iI (z 185)))), h2) ∧ CI B h2 (pushA (z, A) (zdl z x y v)) := by
  have RA : RepA h 182 0 184 z := I.1.1
  have h13 : h 0 13 = iI (z 188) := I.1.2.1
  have K : OKz B z := I.1.2.2
  obtain ⟨S, R, RP, F⟩ := id RA
  obtain ⟨⟨w1, w2⟩, ⟨n1, n2⟩, -⟩ := id F
  have r := a_isDealer (h := h) hx hy hv
  rw [if_pos c] at r
  obtain ⟨h1, g1, A1, e13, fin⟩ := actC2 I (Int.le_refl B)
  obtain ⟨h2, k1, k2, k3, k4⟩ := a_admit A1 (by omega) (K.o0 (by omega)) c.1 c.2.1 c.2.2
  have C9 := fin _ h2 k2 (by rw [k4, e13, zdl_n z x y v (by decide) (by omega)]) k3 (K.dl (by omega) c.1 c.2.1 c.2.2)
  refine ⟨h2, ?_, C9⟩
  try simp only [Int.toNat_natCast]
  show f_F_dealer h 180 (iI x) (iI y) (iI v) = _
  unfold f_F_dealer
  rw [r, Option.bind_some, if_neg (by decide), f00, R.nd, lI10, tLe (by omega) (by omega) (by omega) (by omega), if_neg (by omega), f_F_dealer_29, if_neg (by decide), f02, f00, g1, Option.bind_some, f0, k1, Option.bind_some]
theorem k_dealer_s (I : CI B h (z, A)) {x : Int} (hx : InR x) {y : Int} (hy : InR y) {v : Int} (hv : InR v) (c : kindP x y v) (c4 : z 185 = 10) : f_F_dealer h 180 (iI x) (iI y) (iI v) = some (.inr "java/lang/IllegalStateException", h) := by
  have RA : RepA h 182 0 184 z := I.1.1
  have h13 : h 0 13 = iI (z 188) := I.1.2.1
  have K : OKz B z := I.1.2.2
  obtain ⟨S, R, RP, F⟩ := id RA
  obtain ⟨⟨w1, w2⟩, ⟨n1, n2⟩, -⟩ := id F
  have r := a_isDealer (h := h) hx hy hv
  rw [if_pos c] at r
  show f_F_dealer h 180 (iI x) (iI y) (iI v) = some (.inr "java/lang/IllegalStateException", h)
  unfold f_F_dealer
  rw [r, Option.bind_some, if_neg (by decide), f00, R.nd, lI10, tLe (by omega) (by omega) (by omega) (by omega), if_pos (by omega), f_F_dealer_29, if_pos rfl]
theorem k_dealer_a (I : CI B h (z, A)) {x : Int} (hx : InR x) {y : Int} (hy : InR y) {v : Int} (hv : InR v) (c : ¬ kindP x y v) : f_F_dealer h 180 (iI x) (iI y) (iI v) = some (.inr "java/lang/IllegalArgumentException", h) := by
  have RA : RepA h 182 0 184 z := I.1.1
  have h13 : h 0 13 = iI (z 188) := I.1.2.1
  have K : OKz B z := I.1.2.2
  obtain ⟨S, R, RP, F⟩ := id RA
  obtain ⟨⟨w1, w2⟩, ⟨n1, n2⟩, -⟩ := id F
  have r := a_isDealer (h := h) hx hy hv
  rw [if_neg c] at r
  show f_F_dealer h 180 (iI x) (iI y) (iI v) = some (.inr "java/lang/IllegalArgumentException", h)
  unfold f_F_dealer
  rw [r, Option.bind_some, if_pos rfl]
theorem k_set (I : CI B h (z, A)) {x : Int} (hx : InR x) {v : Int} (hv : InR v) (c : setP x v) : ∃ h2, f_F_set h 180 (iI x) (iI v) = some (.inl (some (.int (iI (z (190 + x.toNat))))), h2) ∧ CI B h2 (pushA (z, A) (uI z (190 + x.toNat) v)) := by
  have RA : RepA h 182 0 184 z := I.1.1
  have h13 : h 0 13 = iI (z 188) := I.1.2.1
  have K : OKz B z := I.1.2.2
  obtain ⟨S, R, RP, F⟩ := id RA
  obtain ⟨⟨w1, w2⟩, ⟨n1, n2⟩, -⟩ := id F
  have r := a_isSet (h := h) hx hv
  rw [if_pos c] at r
  obtain ⟨h1, g1, A1, e13, fin⟩ := actC2 I (Int.le_refl B)
  obtain ⟨h2, k1, k2, k3, k4⟩ := a_setting A1 (j := x.toNat) (by omega) c.2
  rw [show ((x.toNat : Nat) : Int) = x by omega] at k1
  have C9 := fin _ h2 k2 (by rw [k4, e13, uI_n _ _ (by omega)]) k3 (K.u k2.2.2.2 ⟨by omega, by omega, by omega⟩)
  refine ⟨h2, ?_, C9⟩
  try simp only [Int.toNat_natCast]
  show f_F_set h 180 (iI x) (iI v) = _
  unfold f_F_set
  rw [r, Option.bind_some, if_neg (by decide), f02, f00, g1, Option.bind_some, f0, k1, Option.bind_some]
theorem k_set_a (I : CI B h (z, A)) {x : Int} (hx : InR x) {v : Int} (hv : InR v) (c : ¬ setP x v) : f_F_set h 180 (iI x) (iI v) = some (.inr "java/lang/IllegalArgumentException", h) := by
  have RA : RepA h 182 0 184 z := I.1.1
  have h13 : h 0 13 = iI (z 188) := I.1.2.1
  have K : OKz B z := I.1.2.2
  obtain ⟨S, R, RP, F⟩ := id RA
  obtain ⟨⟨w1, w2⟩, ⟨n1, n2⟩, -⟩ := id F
  have r := a_isSet (h := h) hx hv
  rw [if_neg c] at r
  show f_F_set h 180 (iI x) (iI v) = some (.inr "java/lang/IllegalArgumentException", h)
  unfold f_F_set
  rw [r, Option.bind_some, if_pos rfl]
theorem k_days (I : CI B h (z, A)) {v : Int} (hv : InR v) (c : 1 ≤ v ∧ v ≤ 60) : ∃ h2, f_F_days h 180 (iI v) = some (.inl (some (.int (iI (v.toNat * rtsZ z)))), h2) ∧ CI (B + 42000) h2 (pushA (z, A) (zdy z v.toNat)) := by
  have RA : RepA h 182 0 184 z := I.1.1
  have h13 : h 0 13 = iI (z 188) := I.1.2.1
  have K : OKz B z := I.1.2.2
  obtain ⟨S, R, RP, F⟩ := id RA
  obtain ⟨⟨w1, w2⟩, ⟨n1, n2⟩, -⟩ := id F
  have r := in32 h hv ⟨by decide, by decide⟩ ⟨by decide, by decide⟩ lI1 lI60
  rw [if_pos c] at r
  obtain ⟨n, hn, h0, rfl⟩ : ∃ n : Nat, n ≤ 60 ∧ n ≠ 0 ∧ v = n := ⟨v.toNat, by omega, by omega, by omega⟩
  obtain ⟨h1, g1, A1, e13, fin⟩ := actC2 I (show B ≤ B + 42000 by omega)
  obtain ⟨h2, k1, k2, k3, k4⟩ := a_passDays A1 hn h0
  have C9 := fin _ h2 k2 (by rw [k4, e13]; unfold zdy dysZ; rw [uI_n _ _ (by decide), uI_n _ _ (by decide), uI_n _ _ (by decide), dyA_n z _ _ (by decide)]) k3 (K.dy hn)
  refine ⟨h2, ?_, C9⟩
  try simp only [Int.toNat_natCast]
  show f_F_days h 180 (iI n) = _
  unfold f_F_days
  rw [r, Option.bind_some, if_neg (by decide), f02, f00, g1, Option.bind_some, f0, k1, Option.bind_some]
theorem k_days_a (I : CI B h (z, A)) {v : Int} (hv : InR v) (c : ¬ (1 ≤ v ∧ v ≤ 60)) : f_F_days h 180 (iI v) = some (.inr "java/lang/IllegalArgumentException", h) := by
  have RA : RepA h 182 0 184 z := I.1.1
  have h13 : h 0 13 = iI (z 188) := I.1.2.1
  have K : OKz B z := I.1.2.2
  obtain ⟨S, R, RP, F⟩ := id RA
  obtain ⟨⟨w1, w2⟩, ⟨n1, n2⟩, -⟩ := id F
  have r := in32 h hv ⟨by decide, by decide⟩ ⟨by decide, by decide⟩ lI1 lI60
  rw [if_neg c] at r
  show f_F_days h 180 (iI v) = some (.inr "java/lang/IllegalArgumentException", h)
  unfold f_F_days
  rw [r, Option.bind_some, if_pos rfl]
theorem k_place (I : CI B h (z, A)) {x : Int} (hx : InR x) {y : Int} (hy : InR y) {v : Int} (hv : InR v) (cd : 0 ≤ x ∧ x < z 185) (cw : 0 ≤ y ∧ y < z 184 ∧ 0 ≤ v ∧ v < z (31 * y.toNat)) : ∃ h2, f_F_place h 180 (iI x) (iI y) (iI v) = some (.inl (some (.int (iI (rsnP z x.toNat y v)))), h2) ∧ CI B h2 (pushA (z, A) (plcZ z x.toNat y v)) := by
  have RA : RepA h 182 0 184 z := I.1.1
  have h13 : h 0 13 = iI (z 188) := I.1.2.1
  have K : OKz B z := I.1.2.2
  obtain ⟨S, R, RP, F⟩ := id RA
  obtain ⟨⟨w1, w2⟩, ⟨n1, n2⟩, -⟩ := id F
  have rd := s_hasDealer R F hx
  have rw_ := s_hasMetre R S.bs F hy hv
  rw [if_pos cd] at rd
  rw [if_pos cw] at rw_
  have hL := F.2.2.2.1 y.toNat (by omega)
  obtain ⟨d, h2, rfl⟩ : ∃ d : Nat, (d : Int) < z 185 ∧ x = d := ⟨x.toNat, by omega, by omega⟩
  try simp only [Int.toNat_natCast] at c ⊢
  have hd : d < 10 := by omega
  obtain ⟨h1, g1, A1, e13, fin⟩ := actC2 I (Int.le_refl B)
  obtain ⟨h2a, k1, k2, k3, k4, -⟩ := a_letStand A1 hd h2 (w := y) (f := v) ⟨cw.1, cw.2.1⟩ cw.2.2
  have hb := rsnP_b z d y v
  have CF : ∀ h2 : HP, f_A_countRefusal h2a 182 (iI (rsnP z d y v)) = some (iI (rsnP z d y v), h2) → f_F_place h 180 (iI d) (iI y) (iI v) = some (.inl (some (.int (iI (rsnP z d y v)))), h2) := fun h2 e => by
    unfold f_F_place
    rw [f00, rd, Option.bind_some, if_neg (by decide), rw_, Option.bind_some, if_neg (by decide), f_F_place_34, if_neg (by decide), f02, f00, g1, Option.bind_some, f0, k1, Option.bind_some]
    dsimp only
    rw [e, Option.bind_some]
  by_cases c0 : rsnP z d y v = 0
  · rw [if_pos c0] at k2
    have Fz := rsnP_wf F hd h2 ⟨cw.1, cw.2.1⟩ cw.2.2.1 c0
    have e0 := a_count0 (h := h2a)
    rw [← c0] at e0
    have C9 := fin _ h2a k2 (by rw [k4, e13, zst_n _ _ _ _ (by omega) (by omega)]) k3 (K.st hd Fz)
    exact ⟨h2a, CF h2a e0, by rw [show plcZ z (d : Int).toNat y v = zst z d y v from if_pos c0]; exact C9⟩
  · rw [if_neg c0] at k2
    obtain ⟨h2b, b1, b2, b3, b4⟩ := a_count1 k2 (by rw [k4]; exact e13) hb c0
    have C9 := fin _ h2b b2 b3 (fun i hi => by rw [b4 i hi, k3 i hi]) (K.rf _)
    exact ⟨h2b, CF h2b b1, by rw [show plcZ z (d : Int).toNat y v = uI z 188 (z 188 + 1) from if_neg c0]; exact C9⟩
theorem k_place_i (I : CI B h (z, A)) {x : Int} (hx : InR x) {y : Int} (hy : InR y) {v : Int} (hv : InR v) (cd : 0 ≤ x ∧ x < z 185) (cw : ¬ (0 ≤ y ∧ y < z 184 ∧ 0 ≤ v ∧ v < z (31 * y.toNat))) : f_F_place h 180 (iI x) (iI y) (iI v) = some (.inr "java/lang/IndexOutOfBoundsException", h) := by
  have RA : RepA h 182 0 184 z := I.1.1
  have h13 : h 0 13 = iI (z 188) := I.1.2.1
  have K : OKz B z := I.1.2.2
  obtain ⟨S, R, RP, F⟩ := id RA
  obtain ⟨⟨w1, w2⟩, ⟨n1, n2⟩, -⟩ := id F
  have rd := s_hasDealer R F hx
  have rw_ := s_hasMetre R S.bs F hy hv
  rw [if_pos cd] at rd
  rw [if_neg cw] at rw_
  show f_F_place h 180 (iI x) (iI y) (iI v) = some (.inr "java/lang/IndexOutOfBoundsException", h)
  unfold f_F_place
  rw [f00, rd, Option.bind_some, if_neg (by decide), rw_, Option.bind_some, if_pos rfl, f_F_place_33, f_F_place_34, if_pos rfl]
theorem k_place_j (I : CI B h (z, A)) {x : Int} (hx : InR x) {y : Int} (hy : InR y) {v : Int} (hv : InR v) (cd : ¬ (0 ≤ x ∧ x < z 185)) : f_F_place h 180 (iI x) (iI y) (iI v) = some (.inr "java/lang/IndexOutOfBoundsException", h) := by
  have RA : RepA h 182 0 184 z := I.1.1
  have h13 : h 0 13 = iI (z 188) := I.1.2.1
  have K : OKz B z := I.1.2.2
  obtain ⟨S, R, RP, F⟩ := id RA
  obtain ⟨⟨w1, w2⟩, ⟨n1, n2⟩, -⟩ := id F
  have rd := s_hasDealer R F hx
  have rw_ := s_hasMetre R S.bs F hy hv
  rw [if_neg cd] at rd
  show f_F_place h 180 (iI x) (iI y) (iI v) = some (.inr "java/lang/IndexOutOfBoundsException", h)
  unfold f_F_place
  rw [f00, rd, Option.bind_some, if_pos rfl, f_F_place_33, f_F_place_34, if_pos rfl]
theorem k_leave (I : CI B h (z, A)) {x : Int} (hx : InR x) (cd : 0 ≤ x ∧ x < z 185) (c : ¬ z (127 + 6 * x.toNat) = -1) : ∃ h2, f_F_leave h 180 (iI x) = some (.inl (some (.int (iI (z (129 + 6 * x.toNat))))), h2) ∧ CI B h2 (pushA (z, A) (zst z x.toNat (-1) (-1))) := by
  have RA : RepA h 182 0 184 z := I.1.1
  have h13 : h 0 13 = iI (z 188) := I.1.2.1
  have K : OKz B z := I.1.2.2
  obtain ⟨S, R, RP, F⟩ := id RA
  obtain ⟨⟨w1, w2⟩, ⟨n1, n2⟩, -⟩ := id F
  have rd := s_hasDealer R F hx
  rw [if_pos cd] at rd
  obtain ⟨d, h2, rfl⟩ : ∃ d : Nat, (d : Int) < z 185 ∧ x = d := ⟨x.toNat, by omega, by omega⟩
  try simp only [Int.toNat_natCast] at c ⊢
  have hd : d < 10 := by omega
  have rs := st_stands R S.bs F hd h2
  rw [if_neg c] at rs
  obtain ⟨h1, g1, A1, e13, fin⟩ := actC2 I (Int.le_refl B)
  obtain ⟨h2a, k1, k2, k3, k4, -⟩ := a_sendAway A1 hd h2
  rw [if_neg c] at k1
  have C9 := fin _ h2a k2 (by rw [k4, e13, zst_n _ _ _ _ (by omega) (by omega)]) k3 (K.st hd k2.2.2.2)
  refine ⟨h2a, ?_, C9⟩
  try simp only [Int.toNat_natCast]
  show f_F_leave h 180 (iI d) = _
  unfold f_F_leave
  rw [f00, rd, Option.bind_some, if_neg (by decide), rs, Option.bind_some, if_neg (by decide), f02, g1, Option.bind_some, f0, k1, Option.bind_some]
theorem k_leave_s (I : CI B h (z, A)) {x : Int} (hx : InR x) (cd : 0 ≤ x ∧ x < z 185) (c : z (127 + 6 * x.toNat) = -1) : f_F_leave h 180 (iI x) = some (.inr "java/lang/IllegalStateException", h) := by
  have RA : RepA h 182 0 184 z := I.1.1
  have h13 : h 0 13 = iI (z 188) := I.1.2.1
  have K : OKz B z := I.1.2.2
  obtain ⟨S, R, RP, F⟩ := id RA
  obtain ⟨⟨w1, w2⟩, ⟨n1, n2⟩, -⟩ := id F
  have rd := s_hasDealer R F hx
  rw [if_pos cd] at rd
  obtain ⟨d, h2, rfl⟩ : ∃ d : Nat, (d : Int) < z 185 ∧ x = d := ⟨x.toNat, by omega, by omega⟩
  try simp only [Int.toNat_natCast] at c ⊢
  have hd : d < 10 := by omega
  have rs := st_stands R S.bs F hd h2
  rw [if_pos c] at rs
  show f_F_leave h 180 (iI d) = some (.inr "java/lang/IllegalStateException", h)
  unfold f_F_leave
  rw [f00, rd, Option.bind_some, if_neg (by decide), rs, Option.bind_some, if_pos rfl]
theorem k_leave_i (I : CI B h (z, A)) {x : Int} (hx : InR x) (cd : ¬ (0 ≤ x ∧ x < z 185)) : f_F_leave h 180 (iI x) = some (.inr "java/lang/IndexOutOfBoundsException", h) := by
  have RA : RepA h 182 0 184 z := I.1.1
  have h13 : h 0 13 = iI (z 188) := I.1.2.1
  have K : OKz B z := I.1.2.2
  obtain ⟨S, R, RP, F⟩ := id RA
  obtain ⟨⟨w1, w2⟩, ⟨n1, n2⟩, -⟩ := id F
  have rd := s_hasDealer R F hx
  rw [if_neg cd] at rd
  show f_F_leave h 180 (iI x) = some (.inr "java/lang/IndexOutOfBoundsException", h)
  unfold f_F_leave
  rw [f00, rd, Option.bind_some, if_pos rfl]
theorem k_swap (I : CI B h (z, A)) {x : Int} (hx : InR x) {y : Int} (hy : InR y) (cd : 0 ≤ x ∧ x < z 185) (ce : 0 ≤ y ∧ y < z 185) (cxy : ¬ x = y) : ∃ h2, f_F_swap h 180 (iI x) (iI y) = some (.inl (some (.int (iI (rsnS z x.toNat y.toNat)))), h2) ∧ CI B h2 (pushA (z, A) (swpZ z x.toNat y.toNat)) := by
  have RA : RepA h 182 0 184 z := I.1.1
  have h13 : h 0 13 = iI (z 188) := I.1.2.1
  have K : OKz B z := I.1.2.2
  obtain ⟨S, R, RP, F⟩ := id RA
  obtain ⟨⟨w1, w2⟩, ⟨n1, n2⟩, -⟩ := id F
  have rd := s_hasDealer R F hx
  have re := s_hasDealer R F hy
  rw [if_pos cd] at rd
  rw [if_pos ce] at re
  obtain ⟨d, h2, rfl⟩ : ∃ d : Nat, (d : Int) < z 185 ∧ x = d := ⟨x.toNat, by omega, by omega⟩
  try simp only [Int.toNat_natCast] at c ⊢
  obtain ⟨e, h3', rfl⟩ : ∃ d : Nat, (d : Int) < z 185 ∧ y = d := ⟨y.toNat, by omega, by omega⟩
  have hd : d < 10 := by omega
  have he : e < 10 := by omega
  have hde : d ≠ e := by omega
  have cxy' : ¬ iI (d : Int) = iI (e : Int) := fun q => cxy ((iI_eq (by omega) (by omega) (by omega) (by omega)).mp q)
  obtain ⟨h1, g1, A1, e13, fin⟩ := actC2 I (Int.le_refl B)
  obtain ⟨h2a, k1, k2, k3, k4⟩ := a_exchange A1 hd h2 he h3' hde
  have hb := rsnS_b z d e
  have CF : ∀ h2 : HP, f_A_countRefusal h2a 182 (iI (rsnS z d e)) = some (iI (rsnS z d e), h2) → f_F_swap h 180 (iI d) (iI e) = some (.inl (some (.int (iI (rsnS z d e)))), h2) := fun h2 q => by
    unfold f_F_swap
    rw [f00, rd, Option.bind_some, if_neg (by decide), re, Option.bind_some, if_neg (by decide), f_F_swap_33, if_neg (by decide), if_neg cxy', f_F_swap_46, if_neg (by decide), f02, f00, g1, Option.bind_some, f0, k1, Option.bind_some]
    dsimp only
    rw [q, Option.bind_some]
  by_cases c0 : rsnS z d e = 0
  · rw [if_pos c0] at k2
    have e0 := a_count0 (h := h2a)
    rw [← c0] at e0
    have C9 := fin _ h2a k2 (by rw [k4, e13]; unfold zsw zsx; rw [uI_n _ _ (by decide), zst_n _ _ _ _ (by omega) (by omega), zst_n _ _ _ _ (by omega) (by omega)]) k3 (K.sw hd he k2.2.2.2)
    exact ⟨h2a, CF h2a e0, by rw [show swpZ z (d : Int).toNat (e : Int).toNat = zsw z d e from if_pos c0]; exact C9⟩
  · rw [if_neg c0] at k2
    obtain ⟨h2b, b1, b2, b3, b4⟩ := a_count1 k2 (by rw [k4]; exact e13) hb c0
    have C9 := fin _ h2b b2 b3 (fun i hi => by rw [b4 i hi, k3 i hi]) (K.rf _)
    exact ⟨h2b, CF h2b b1, by rw [show swpZ z (d : Int).toNat (e : Int).toNat = uI z 188 (z 188 + 1) from if_neg c0]; exact C9⟩
theorem k_swap_a (I : CI B h (z, A)) {x : Int} (hx : InR x) {y : Int} (hy : InR y) (cd : 0 ≤ x ∧ x < z 185) (ce : 0 ≤ y ∧ y < z 185) (cxy : x = y) : f_F_swap h 180 (iI x) (iI y) = some (.inr "java/lang/IllegalArgumentException", h) := by
  have RA : RepA h 182 0 184 z := I.1.1
  have h13 : h 0 13 = iI (z 188) := I.1.2.1
  have K : OKz B z := I.1.2.2
  obtain ⟨S, R, RP, F⟩ := id RA
  obtain ⟨⟨w1, w2⟩, ⟨n1, n2⟩, -⟩ := id F
  have rd := s_hasDealer R F hx
  have re := s_hasDealer R F hy
  rw [if_pos cd] at rd
  rw [if_pos ce] at re
  show f_F_swap h 180 (iI x) (iI y) = some (.inr "java/lang/IllegalArgumentException", h)
  unfold f_F_swap
  rw [f00, rd, Option.bind_some, if_neg (by decide), re, Option.bind_some, if_neg (by decide), f_F_swap_33, if_neg (by decide), if_pos (by rw [cxy]), f_F_swap_46, if_pos rfl]
  skip
theorem k_swap_j (I : CI B h (z, A)) {x : Int} (hx : InR x) {y : Int} (hy : InR y) (cd : 0 ≤ x ∧ x < z 185) (ce : ¬ (0 ≤ y ∧ y < z 185)) : f_F_swap h 180 (iI x) (iI y) = some (.inr "java/lang/IndexOutOfBoundsException", h) := by
  have RA : RepA h 182 0 184 z := I.1.1
  have h13 : h 0 13 = iI (z 188) := I.1.2.1
  have K : OKz B z := I.1.2.2
  obtain ⟨S, R, RP, F⟩ := id RA
  obtain ⟨⟨w1, w2⟩, ⟨n1, n2⟩, -⟩ := id F
  have rd := s_hasDealer R F hx
  have re := s_hasDealer R F hy
  rw [if_pos cd] at rd
  rw [if_neg ce] at re
  show f_F_swap h 180 (iI x) (iI y) = some (.inr "java/lang/IndexOutOfBoundsException", h)
  unfold f_F_swap
  rw [f00, rd, Option.bind_some, if_neg (by decide), re, Option.bind_some, if_pos rfl, f_F_swap_32, f_F_swap_33, if_pos rfl]
  skip
theorem k_swap_i (I : CI B h (z, A)) {x : Int} (hx : InR x) {y : Int} (hy : InR y) (cd : ¬ (0 ≤ x ∧ x < z 185)) : f_F_swap h 180 (iI x) (iI y) = some (.inr "java/lang/IndexOutOfBoundsException", h) := by
  have RA : RepA h 182 0 184 z := I.1.1
  have h13 : h 0 13 = iI (z 188) := I.1.2.1
  have K : OKz B z := I.1.2.2
  obtain ⟨S, R, RP, F⟩ := id RA
  obtain ⟨⟨w1, w2⟩, ⟨n1, n2⟩, -⟩ := id F
  have rd := s_hasDealer R F hx
  have re := s_hasDealer R F hy
  rw [if_neg cd] at rd
  show f_F_swap h 180 (iI x) (iI y) = some (.inr "java/lang/IndexOutOfBoundsException", h)
  unfold f_F_swap
  rw [f00, rd, Option.bind_some, if_pos rfl, f_F_swap_32, f_F_swap_33, if_pos rfl]
  skip
end ACTS
