/-! the law's wrappers, over what an object holds -/
def li (x : Int) : Int64 := (iI x).toInt64
theorem wl_0 {E : String} {v : Int64} {r : List (String × Int64)} {h : HP} : wrapL ((E, v) :: r) (.inr E, h) = some (v, h) := if_pos rfl
theorem wl_1 {E E2 : String} {v v2 : Int64} {h : HP} (n : E ≠ E2) : wrapL [(E, v), (E2, v2)] (.inr E2, h) = some (v2, h) := (if_neg (fun q => n (Option.some.inj q))).trans (if_pos rfl)
section WRAPS
variable {h : HP} {z : Nat → Int} {B : Int} {A : (Nat → Nat → Int) × Nat × (Nat → Bool) × (Nat → Nat → Int) × (Nat → Int) × Nat} {A3 : (Nat → Bool) × (Nat → Nat → Int) × (Nat → Int) × Nat} {ys ks : Nat → Nat → Int} {c n : Nat} {kb : Nat → Bool} {t : Nat → Int}
theorem w_about (I : CI B h (z, A)) {v : Int} (hv : InR v) (c : 0 ≤ v ∧ v ≤ 13) {X0 : Int32} (eX0 : X0 = iI v) : f_Q_about h 180 X0 = some (li (aboF z v), h) := by
  subst eX0
  unfold f_Q_about
  rw [k_about I.1.1 I.1.2.1 I.1.2.2 hv c, Option.bind_some]
  rfl
theorem n_about (I : CI B h (z, A)) {v : Int} (hv : InR v) (c : 0 ≤ v ∧ v ≤ 13) {X0 : Int32} (eX0 : X0 = iI v) : g_Q_about h 180 X0 = some (li (aboF z v), h) := by
  subst eX0
  unfold g_Q_about
  rw [k_about I.1.1 I.1.2.1 I.1.2.2 hv c, Option.bind_some]
  rfl
theorem w_about_a (I : CI B h (z, A)) {v : Int} (hv : InR v) (c : ¬ (0 ≤ v ∧ v ≤ 13)) {X0 : Int32} (eX0 : X0 = iI v) : f_Q_about h 180 X0 = some (xAR, h) := by
  subst eX0
  unfold f_Q_about
  rw [k_about_a I.1.1 I.1.2.1 I.1.2.2 hv c, Option.bind_some]
  exact wl_0
theorem w_wallOf (I : CI B h (z, A)) {x : Int} (hx : InR x) {v : Int} (hv : InR v) (cw : 0 ≤ x ∧ x < z 184) (c : 0 ≤ v ∧ v ≤ 5) {X0 : Int32} (eX0 : X0 = iI x) {X1 : Int32} (eX1 : X1 = iI v) : f_Q_wallOf h 180 X0 X1 = some (li (wofF z x.toNat v), h) := by
  subst eX0
  subst eX1
  unfold f_Q_wallOf
  rw [k_wallOf I.1.1 I.1.2.1 I.1.2.2 hx hv cw c, Option.bind_some]
  rfl
theorem n_wallOf (I : CI B h (z, A)) {x : Int} (hx : InR x) {v : Int} (hv : InR v) (cw : 0 ≤ x ∧ x < z 184) (c : 0 ≤ v ∧ v ≤ 5) {X0 : Int32} (eX0 : X0 = iI x) {X1 : Int32} (eX1 : X1 = iI v) : g_Q_wallOf h 180 X0 X1 = some (li (wofF z x.toNat v), h) := by
  subst eX0
  subst eX1
  unfold g_Q_wallOf
  rw [k_wallOf I.1.1 I.1.2.1 I.1.2.2 hx hv cw c, Option.bind_some]
  rfl
theorem w_wallOf_a (I : CI B h (z, A)) {x : Int} (hx : InR x) {v : Int} (hv : InR v) (cw : 0 ≤ x ∧ x < z 184) (c : ¬ (0 ≤ v ∧ v ≤ 5)) {X0 : Int32} (eX0 : X0 = iI x) {X1 : Int32} (eX1 : X1 = iI v) : f_Q_wallOf h 180 X0 X1 = some (xAR, h) := by
  subst eX0
  subst eX1
  unfold f_Q_wallOf
  rw [k_wallOf_a I.1.1 I.1.2.1 I.1.2.2 hx hv cw c, Option.bind_some]
  exact wl_1 (by decide)
theorem w_wallOf_i (I : CI B h (z, A)) {x : Int} (hx : InR x) {v : Int} (hv : InR v) (cw : ¬ (0 ≤ x ∧ x < z 184)) {X0 : Int32} (eX0 : X0 = iI x) {X1 : Int32} (eX1 : X1 = iI v) : f_Q_wallOf h 180 X0 X1 = some (xIX, h) := by
  subst eX0
  subst eX1
  unfold f_Q_wallOf
  rw [k_wallOf_i I.1.1 I.1.2.1 I.1.2.2 hx hv cw, Option.bind_some]
  exact wl_0
theorem w_freeQ (I : CI B h (z, A)) {x : Int} (hx : InR x) {v : Int} (hv : InR v) (cw : 0 ≤ x ∧ x < z 184) (c : 0 ≤ v ∧ v ≤ 1) {X0 : Int32} (eX0 : X0 = iI x) {X1 : Int32} (eX1 : X1 = iI v) : f_Q_free h 180 X0 X1 = some (li (frfF z x.toNat v), h) := by
  subst eX0
  subst eX1
  unfold f_Q_free
  rw [k_free I.1.1 I.1.2.1 I.1.2.2 hx hv cw c, Option.bind_some]
  rfl
theorem n_free (I : CI B h (z, A)) {x : Int} (hx : InR x) {v : Int} (hv : InR v) (cw : 0 ≤ x ∧ x < z 184) (c : 0 ≤ v ∧ v ≤ 1) {X0 : Int32} (eX0 : X0 = iI x) {X1 : Int32} (eX1 : X1 = iI v) : g_Q_free h 180 X0 X1 = some (li (frfF z x.toNat v), h) := by
  subst eX0
  subst eX1
  unfold g_Q_free
  rw [k_free I.1.1 I.1.2.1 I.1.2.2 hx hv cw c, Option.bind_some]
  rfl
theorem w_free_a (I : CI B h (z, A)) {x : Int} (hx : InR x) {v : Int} (hv : InR v) (cw : 0 ≤ x ∧ x < z 184) (c : ¬ (0 ≤ v ∧ v ≤ 1)) {X0 : Int32} (eX0 : X0 = iI x) {X1 : Int32} (eX1 : X1 = iI v) : f_Q_free h 180 X0 X1 = some (xAR, h) := by
  subst eX0
  subst eX1
  unfold f_Q_free
  rw [k_free_a I.1.1 I.1.2.1 I.1.2.2 hx hv cw c, Option.bind_some]
  exact wl_1 (by decide)
theorem w_free_i (I : CI B h (z, A)) {x : Int} (hx : InR x) {v : Int} (hv : InR v) (cw : ¬ (0 ≤ x ∧ x < z 184)) {X0 : Int32} (eX0 : X0 = iI x) {X1 : Int32} (eX1 : X1 = iI v) : f_Q_free h 180 X0 X1 = some (xIX, h) := by
  subst eX0
  subst eX1
  unfold f_Q_free
  rw [k_free_i I.1.1 I.1.2.1 I.1.2.2 hx hv cw, Option.bind_some]
  exact wl_0
theorem w_metreOf (I : CI B h (z, A)) {x : Int} (hx : InR x) {y : Int} (hy : InR y) {v : Int} (hv : InR v) (cw : 0 ≤ x ∧ x < z 184 ∧ 0 ≤ y ∧ y < z (31 * x.toNat)) (c : 0 ≤ v ∧ v ≤ 2) {X0 : Int32} (eX0 : X0 = iI x) {X1 : Int32} (eX1 : X1 = iI y) {X2 : Int32} (eX2 : X2 = iI v) : f_Q_metreOf h 180 X0 X1 X2 = some (li (mofF z x.toNat y.toNat v), h) := by
  subst eX0
  subst eX1
  subst eX2
  unfold f_Q_metreOf
  rw [k_metreOf I.1.1 I.1.2.1 I.1.2.2 hx hy hv cw c, Option.bind_some]
  rfl
theorem n_metreOf (I : CI B h (z, A)) {x : Int} (hx : InR x) {y : Int} (hy : InR y) {v : Int} (hv : InR v) (cw : 0 ≤ x ∧ x < z 184 ∧ 0 ≤ y ∧ y < z (31 * x.toNat)) (c : 0 ≤ v ∧ v ≤ 2) {X0 : Int32} (eX0 : X0 = iI x) {X1 : Int32} (eX1 : X1 = iI y) {X2 : Int32} (eX2 : X2 = iI v) : g_Q_metreOf h 180 X0 X1 X2 = some (li (mofF z x.toNat y.toNat v), h) := by
  subst eX0
  subst eX1
  subst eX2
  unfold g_Q_metreOf
  rw [k_metreOf I.1.1 I.1.2.1 I.1.2.2 hx hy hv cw c, Option.bind_some]
  rfl
theorem w_metreOf_a (I : CI B h (z, A)) {x : Int} (hx : InR x) {y : Int} (hy : InR y) {v : Int} (hv : InR v) (cw : 0 ≤ x ∧ x < z 184 ∧ 0 ≤ y ∧ y < z (31 * x.toNat)) (c : ¬ (0 ≤ v ∧ v ≤ 2)) {X0 : Int32} (eX0 : X0 = iI x) {X1 : Int32} (eX1 : X1 = iI y) {X2 : Int32} (eX2 : X2 = iI v) : f_Q_metreOf h 180 X0 X1 X2 = some (xAR, h) := by
  subst eX0
  subst eX1
  subst eX2
  unfold f_Q_metreOf
  rw [k_metreOf_a I.1.1 I.1.2.1 I.1.2.2 hx hy hv cw c, Option.bind_some]
  exact wl_1 (by decide)
theorem w_metreOf_i (I : CI B h (z, A)) {x : Int} (hx : InR x) {y : Int} (hy : InR y) {v : Int} (hv : InR v) (cw : ¬ (0 ≤ x ∧ x < z 184 ∧ 0 ≤ y ∧ y < z (31 * x.toNat))) {X0 : Int32} (eX0 : X0 = iI x) {X1 : Int32} (eX1 : X1 = iI y) {X2 : Int32} (eX2 : X2 = iI v) : f_Q_metreOf h 180 X0 X1 X2 = some (xIX, h) := by
  subst eX0
  subst eX1
  subst eX2
  unfold f_Q_metreOf
  rw [k_metreOf_i I.1.1 I.1.2.1 I.1.2.2 hx hy hv cw, Option.bind_some]
  exact wl_0
theorem w_dealerOf (I : CI B h (z, A)) {x : Int} (hx : InR x) {v : Int} (hv : InR v) (cw : 0 ≤ x ∧ x < z 185) (c : 0 ≤ v ∧ v ≤ 11) {X0 : Int32} (eX0 : X0 = iI x) {X1 : Int32} (eX1 : X1 = iI v) : f_Q_dealerOf h 180 X0 X1 = some (li (dofF z x.toNat v), h) := by
  subst eX0
  subst eX1
  unfold f_Q_dealerOf
  rw [k_dealerOf I.1.1 I.1.2.1 I.1.2.2 hx hv cw c, Option.bind_some]
  rfl
theorem n_dealerOf (I : CI B h (z, A)) {x : Int} (hx : InR x) {v : Int} (hv : InR v) (cw : 0 ≤ x ∧ x < z 185) (c : 0 ≤ v ∧ v ≤ 11) {X0 : Int32} (eX0 : X0 = iI x) {X1 : Int32} (eX1 : X1 = iI v) : g_Q_dealerOf h 180 X0 X1 = some (li (dofF z x.toNat v), h) := by
  subst eX0
  subst eX1
  unfold g_Q_dealerOf
  rw [k_dealerOf I.1.1 I.1.2.1 I.1.2.2 hx hv cw c, Option.bind_some]
  rfl
theorem w_dealerOf_a (I : CI B h (z, A)) {x : Int} (hx : InR x) {v : Int} (hv : InR v) (cw : 0 ≤ x ∧ x < z 185) (c : ¬ (0 ≤ v ∧ v ≤ 11)) {X0 : Int32} (eX0 : X0 = iI x) {X1 : Int32} (eX1 : X1 = iI v) : f_Q_dealerOf h 180 X0 X1 = some (xAR, h) := by
  subst eX0
  subst eX1
  unfold f_Q_dealerOf
  rw [k_dealerOf_a I.1.1 I.1.2.1 I.1.2.2 hx hv cw c, Option.bind_some]
  exact wl_1 (by decide)
theorem w_dealerOf_i (I : CI B h (z, A)) {x : Int} (hx : InR x) {v : Int} (hv : InR v) (cw : ¬ (0 ≤ x ∧ x < z 185)) {X0 : Int32} (eX0 : X0 = iI x) {X1 : Int32} (eX1 : X1 = iI v) : f_Q_dealerOf h 180 X0 X1 = some (xIX, h) := by
  subst eX0
  subst eX1
  unfold f_Q_dealerOf
  rw [k_dealerOf_i I.1.1 I.1.2.1 I.1.2.2 hx hv cw, Option.bind_some]
  exact wl_0
theorem w_plugOf (I : CI B h (z, A)) {x : Int} (hx : InR x) {v : Int} (hv : InR v) (cw : 0 ≤ x ∧ x < z 185) (c : 0 ≤ v ∧ v ≤ 2) {X0 : Int32} (eX0 : X0 = iI x) {X1 : Int32} (eX1 : X1 = iI v) : f_Q_plugOf h 180 X0 X1 = some (li (plfF z x.toNat v), h) := by
  subst eX0
  subst eX1
  unfold f_Q_plugOf
  rw [k_plugOf I.1.1 I.1.2.1 I.1.2.2 hx hv cw c, Option.bind_some]
  rfl
theorem n_plugOf (I : CI B h (z, A)) {x : Int} (hx : InR x) {v : Int} (hv : InR v) (cw : 0 ≤ x ∧ x < z 185) (c : 0 ≤ v ∧ v ≤ 2) {X0 : Int32} (eX0 : X0 = iI x) {X1 : Int32} (eX1 : X1 = iI v) : g_Q_plugOf h 180 X0 X1 = some (li (plfF z x.toNat v), h) := by
  subst eX0
  subst eX1
  unfold g_Q_plugOf
  rw [k_plugOf I.1.1 I.1.2.1 I.1.2.2 hx hv cw c, Option.bind_some]
  rfl
theorem w_plugOf_a (I : CI B h (z, A)) {x : Int} (hx : InR x) {v : Int} (hv : InR v) (cw : 0 ≤ x ∧ x < z 185) (c : ¬ (0 ≤ v ∧ v ≤ 2)) {X0 : Int32} (eX0 : X0 = iI x) {X1 : Int32} (eX1 : X1 = iI v) : f_Q_plugOf h 180 X0 X1 = some (xAR, h) := by
  subst eX0
  subst eX1
  unfold f_Q_plugOf
  rw [k_plugOf_a I.1.1 I.1.2.1 I.1.2.2 hx hv cw c, Option.bind_some]
  exact wl_1 (by decide)
theorem w_plugOf_i (I : CI B h (z, A)) {x : Int} (hx : InR x) {v : Int} (hv : InR v) (cw : ¬ (0 ≤ x ∧ x < z 185)) {X0 : Int32} (eX0 : X0 = iI x) {X1 : Int32} (eX1 : X1 = iI v) : f_Q_plugOf h 180 X0 X1 = some (xIX, h) := by
  subst eX0
  subst eX1
  unfold f_Q_plugOf
  rw [k_plugOf_i I.1.1 I.1.2.1 I.1.2.2 hx hv cw, Option.bind_some]
  exact wl_0
theorem w_setting (I : CI B h (z, A)) {v : Int} (hv : InR v) (c : 0 ≤ v ∧ v ≤ 5) {X0 : Int32} (eX0 : X0 = iI v) : f_Q_setting h 180 X0 = some (li (setF z v), h) := by
  subst eX0
  unfold f_Q_setting
  rw [k_setting I.1.1 I.1.2.1 I.1.2.2 hv c, Option.bind_some]
  rfl
theorem n_setting (I : CI B h (z, A)) {v : Int} (hv : InR v) (c : 0 ≤ v ∧ v ≤ 5) {X0 : Int32} (eX0 : X0 = iI v) : g_Q_setting h 180 X0 = some (li (setF z v), h) := by
  subst eX0
  unfold g_Q_setting
  rw [k_setting I.1.1 I.1.2.1 I.1.2.2 hv c, Option.bind_some]
  rfl
theorem w_setting_a (I : CI B h (z, A)) {v : Int} (hv : InR v) (c : ¬ (0 ≤ v ∧ v ≤ 5)) {X0 : Int32} (eX0 : X0 = iI v) : f_Q_setting h 180 X0 = some (xAR, h) := by
  subst eX0
  unfold f_Q_setting
  rw [k_setting_a I.1.1 I.1.2.1 I.1.2.2 hv c, Option.bind_some]
  exact wl_0
theorem w_rentIf (I : CI B h (z, A)) {x : Int} (hx : InR x) {y : Int} (hy : InR y) {v : Int} (hv : InR v) (cd : 0 ≤ x ∧ x < z 185) (cw : 0 ≤ y ∧ y < z 184 ∧ 0 ≤ v ∧ v < z (31 * y.toNat)) {X0 : Int32} (eX0 : X0 = iI x) {X1 : Int32} (eX1 : X1 = iI y) {X2 : Int32} (eX2 : X2 = iI v) : ∃ h1, f_Q_rentIf h 180 X0 X1 X2 = some (li (rifZ (zst z x.toNat (-1) (-1)) x.toNat y v), h1) ∧ QF h h1 := by
  subst eX0
  subst eX1
  subst eX2
  obtain ⟨u2, g1, g2⟩ := k_rentIf I.1.1 I.1.2.2 hx hy hv cd cw
  refine ⟨u2, ?_, g2⟩
  unfold f_Q_rentIf
  rw [g1, Option.bind_some]
  rfl
theorem w_rentIf_i (I : CI B h (z, A)) {x : Int} (hx : InR x) {y : Int} (hy : InR y) {v : Int} (hv : InR v) (cd : ¬ (0 ≤ x ∧ x < z 185)) {X0 : Int32} (eX0 : X0 = iI x) {X1 : Int32} (eX1 : X1 = iI y) {X2 : Int32} (eX2 : X2 = iI v) : f_Q_rentIf h 180 X0 X1 X2 = some (xIX, h) := by
  subst eX0
  subst eX1
  subst eX2
  unfold f_Q_rentIf
  rw [k_rentIf_i I.1.1 I.1.2.2 hx hy hv cd, Option.bind_some]
  exact wl_0
theorem w_cheapest (I : CI B h (z, A)) {x : Int} (hx : InR x) {v : Int} (hv : InR v) (cw : 0 ≤ x ∧ x < z 185) (c : 0 ≤ v ∧ v ≤ 1) {X0 : Int32} (eX0 : X0 = iI x) {X1 : Int32} (eX1 : X1 = iI v) : ∃ h1, f_Q_cheapest h 180 X0 X1 = some (li (chpF z x.toNat v), h1) ∧ QF h h1 := by
  subst eX0
  subst eX1
  obtain ⟨u2, g1, g2⟩ := k_cheapest I.1.1 I.1.2.2 hx hv cw c
  refine ⟨u2, ?_, g2⟩
  unfold f_Q_cheapest
  rw [g1, Option.bind_some]
  rfl
theorem w_cheapest_a (I : CI B h (z, A)) {x : Int} (hx : InR x) {v : Int} (hv : InR v) (cw : 0 ≤ x ∧ x < z 185) (c : ¬ (0 ≤ v ∧ v ≤ 1)) {X0 : Int32} (eX0 : X0 = iI x) {X1 : Int32} (eX1 : X1 = iI v) : f_Q_cheapest h 180 X0 X1 = some (xAR, h) := by
  subst eX0
  subst eX1
  unfold f_Q_cheapest
  rw [k_cheapest_a I.1.1 I.1.2.2 hx hv cw c, Option.bind_some]
  exact wl_1 (by decide)
theorem w_cheapest_i (I : CI B h (z, A)) {x : Int} (hx : InR x) {v : Int} (hv : InR v) (cw : ¬ (0 ≤ x ∧ x < z 185)) {X0 : Int32} (eX0 : X0 = iI x) {X1 : Int32} (eX1 : X1 = iI v) : f_Q_cheapest h 180 X0 X1 = some (xIX, h) := by
  subst eX0
  subst eX1
  unfold f_Q_cheapest
  rw [k_cheapest_i I.1.1 I.1.2.2 hx hv cw, Option.bind_some]
  exact wl_0
theorem w_why (I : CI B h (z, A)) {x : Int} (hx : InR x) {y : Int} (hy : InR y) (cd : 0 ≤ x ∧ x < z 185) (ce : 0 ≤ y ∧ y < z 185) (cxy : ¬ x = y) {X0 : Int32} (eX0 : X0 = iI x) {X1 : Int32} (eX1 : X1 = iI y) : ∃ h1, f_Q_why h 180 X0 X1 = some (li (rsnS z x.toNat y.toNat), h1) ∧ QF h h1 := by
  subst eX0
  subst eX1
  obtain ⟨u2, g1, g2⟩ := k_why I.1.1 I.1.2.2 hx hy cd ce cxy
  refine ⟨u2, ?_, g2⟩
  unfold f_Q_why
  rw [g1, Option.bind_some]
  rfl
theorem w_why_a (I : CI B h (z, A)) {x : Int} (hx : InR x) {y : Int} (hy : InR y) (cd : 0 ≤ x ∧ x < z 185) (ce : 0 ≤ y ∧ y < z 185) (cxy : x = y) {X0 : Int32} (eX0 : X0 = iI x) {X1 : Int32} (eX1 : X1 = iI y) : f_Q_why h 180 X0 X1 = some (xAR, h) := by
  subst eX0
  subst eX1
  unfold f_Q_why
  rw [k_why_a I.1.1 I.1.2.2 hx hy cd ce cxy, Option.bind_some]
  exact wl_1 (by decide)
theorem w_why_i (I : CI B h (z, A)) {x : Int} (hx : InR x) {y : Int} (hy : InR y) (cd : ¬ (0 ≤ x ∧ x < z 185)) {X0 : Int32} (eX0 : X0 = iI x) {X1 : Int32} (eX1 : X1 = iI y) : f_Q_why h 180 X0 X1 = some (xIX, h) := by
  subst eX0
  subst eX1
  unfold f_Q_why
  rw [k_why_i I.1.1 I.1.2.2 hx hy cd, Option.bind_some]
  exact wl_0
theorem w_bestSwap (I : CI B h (z, A)) {v : Int} (hv : InR v) (c : 0 ≤ v ∧ v ≤ 1) {X0 : Int32} (eX0 : X0 = iI v) : ∃ h1, f_Q_bestSwap h 180 X0 = some (li (bsR v (bsO z (z 185).toNat 0 (-1, rtsZ z))), h1) ∧ QF h h1 := by
  subst eX0
  obtain ⟨u2, g1, g2⟩ := k_bestSwap I.1.1 I.1.2.2 hv c
  refine ⟨u2, ?_, g2⟩
  unfold f_Q_bestSwap
  rw [g1, Option.bind_some]
  rfl
theorem w_bestSwap_a (I : CI B h (z, A)) {v : Int} (hv : InR v) (c : ¬ (0 ≤ v ∧ v ≤ 1)) {X0 : Int32} (eX0 : X0 = iI v) : f_Q_bestSwap h 180 X0 = some (xAR, h) := by
  subst eX0
  unfold f_Q_bestSwap
  rw [k_bestSwap_a I.1.1 I.1.2.2 hv c, Option.bind_some]
  exact wl_0
theorem w_simulate (I : CI B h (z, A)) (hB : B < 2000000000) {x : Int64} {v : Int} (hv : InR v) (c : 1 ≤ v ∧ v ≤ 60) {X1 : Int32} (eX1 : X1 = iI v) : ∃ h1, f_Q_simulate h 180 x X1 = some (li (simR (simF trS lcg v.toNat x z)), h1) ∧ QF h h1 := by
  subst eX1
  obtain ⟨u2, g1, g2⟩ := k_simulate I.1.1 I.1.2.2 hB hv c
  refine ⟨u2, ?_, g2⟩
  unfold f_Q_simulate
  rw [g1, Option.bind_some]
  rfl
theorem w_simulate_a (I : CI B h (z, A)) {x : Int64} {v : Int} (hv : InR v) (c : ¬ (1 ≤ v ∧ v ≤ 60)) {X1 : Int32} (eX1 : X1 = iI v) : f_Q_simulate h 180 x X1 = some (xAR, h) := by
  subst eX1
  unfold f_Q_simulate
  rw [k_simulate_a I.1.1 I.1.2.2 hv c, Option.bind_some]
  exact wl_0
theorem w_runScript (I : CI B h (z, A)) (hB : B < 2000000000) {s : Int} (hs1 : -9223372036854775808 ≤ s) (hs2 : s < 9223372036854775808) {v : Int} (hv : InR v) (c : 1 ≤ v ∧ v ≤ 3) (c0 : ¬ s < 0) (c1 : s < p5 v.toNat) {X0 : Int32} (eX0 : X0 = iI v) : ∃ h1, f_Q_script h 180 X0 (i64 s) = some (li (scrZ (fun k => s / p5 (v.toNat - 1 - k) % 100000) v.toNat 0 z), h1) ∧ QF h h1 := by
  subst eX0
  obtain ⟨u2, g1, g2⟩ := k_runScript I.1.1 I.1.2.2 hB hs1 hs2 hv c c0 c1
  refine ⟨u2, ?_, g2⟩
  unfold f_Q_script
  rw [g1, Option.bind_some]
  rfl
theorem w_runScript_a (I : CI B h (z, A)) {s : Int} (hs1 : -9223372036854775808 ≤ s) (hs2 : s < 9223372036854775808) {v : Int} (hv : InR v) (c : 1 ≤ v ∧ v ≤ 3) (c0 : ¬ s < 0) (c1 : ¬ s < p5 v.toNat) {X0 : Int32} (eX0 : X0 = iI v) : ∃ h1, f_Q_script h 180 X0 (i64 s) = some (xAR, h1) ∧ QF h h1 := by
  subst eX0
  obtain ⟨u2, g1, g2⟩ := k_runScript_a I.1.1 I.1.2.2 hs1 hs2 hv c c0 c1
  refine ⟨u2, ?_, g2⟩
  unfold f_Q_script
  rw [g1, Option.bind_some]
  exact wl_0
theorem w_runScript_b (I : CI B h (z, A)) {s : Int} (hs1 : -9223372036854775808 ≤ s) (hs2 : s < 9223372036854775808) {v : Int} (hv : InR v) (c : ¬ (1 ≤ v ∧ v ≤ 3)) {X0 : Int32} (eX0 : X0 = iI v) : f_Q_script h 180 X0 (i64 s) = some (xAR, h) := by
  subst eX0
  unfold f_Q_script
  rw [k_runScript_b I.1.1 I.1.2.2 hs1 hs2 hv c, Option.bind_some]
  exact wl_0
theorem w_runScript_c (I : CI B h (z, A)) {s : Int} (hs1 : -9223372036854775808 ≤ s) (hs2 : s < 9223372036854775808) {v : Int} (hv : InR v) (c : 1 ≤ v ∧ v ≤ 3) (c0 : s < 0) {X0 : Int32} (eX0 : X0 = iI v) : f_Q_script h 180 X0 (i64 s) = some (xAR, h) := by
  subst eX0
  unfold f_Q_script
  rw [k_runScript_c I.1.1 I.1.2.2 hs1 hs2 hv c c0, Option.bind_some]
  exact wl_0
theorem w_wall (I : CI B h (z, A)) {v : Int} (hv : InR v) (c : 4 ≤ v ∧ v ≤ 30) (c4 : ¬ z 184 = 4) {X0 : Int32} (eX0 : X0 = iI v) : ∃ h2, f_Q_wall h 180 X0 = some (li (z 184), h2) ∧ CI B h2 (pushA (z, A) (zwl z v)) := by
  subst eX0
  obtain ⟨u2, g1, g2⟩ := k_wall I hv c c4
  refine ⟨u2, ?_, g2⟩
  unfold f_Q_wall
  rw [g1, Option.bind_some]
  rfl
theorem w_wall_s (I : CI B h (z, A)) {v : Int} (hv : InR v) (c : 4 ≤ v ∧ v ≤ 30) (c4 : z 184 = 4) {X0 : Int32} (eX0 : X0 = iI v) : f_Q_wall h 180 X0 = some (xST, h) := by
  subst eX0
  unfold f_Q_wall
  rw [k_wall_s I hv c c4, Option.bind_some]
  exact wl_1 (by decide)
theorem w_wall_a (I : CI B h (z, A)) {v : Int} (hv : InR v) (c : ¬ (4 ≤ v ∧ v ≤ 30)) {X0 : Int32} (eX0 : X0 = iI v) : f_Q_wall h 180 X0 = some (xAR, h) := by
  subst eX0
  unfold f_Q_wall
  rw [k_wall_a I hv c, Option.bind_some]
  exact wl_0
theorem w_outlet (I : CI B h (z, A)) {x : Int} (hx : InR x) {y : Int} (hy : InR y) {v : Int} (hv : InR v) (cw : 0 ≤ x ∧ x < z 184 ∧ 0 ≤ y ∧ y < z (31 * x.toNat)) (c : 0 ≤ v ∧ v ≤ 4) {X0 : Int32} (eX0 : X0 = iI x) {X1 : Int32} (eX1 : X1 = iI y) {X2 : Int32} (eX2 : X2 = iI v) : ∃ h2, f_Q_outlet h 180 X0 X1 X2 = some (li (z (31 * x.toNat + 1 + y.toNat)), h2) ∧ CI B h2 (pushA (z, A) (uI z (31 * x.toNat + 1 + y.toNat) v)) := by
  subst eX0
  subst eX1
  subst eX2
  obtain ⟨u2, g1, g2⟩ := k_outlet I hx hy hv cw c
  refine ⟨u2, ?_, g2⟩
  unfold f_Q_outlet
  rw [g1, Option.bind_some]
  rfl
theorem w_outlet_a (I : CI B h (z, A)) {x : Int} (hx : InR x) {y : Int} (hy : InR y) {v : Int} (hv : InR v) (cw : 0 ≤ x ∧ x < z 184 ∧ 0 ≤ y ∧ y < z (31 * x.toNat)) (c : ¬ (0 ≤ v ∧ v ≤ 4)) {X0 : Int32} (eX0 : X0 = iI x) {X1 : Int32} (eX1 : X1 = iI y) {X2 : Int32} (eX2 : X2 = iI v) : f_Q_outlet h 180 X0 X1 X2 = some (xAR, h) := by
  subst eX0
  subst eX1
  subst eX2
  unfold f_Q_outlet
  rw [k_outlet_a I hx hy hv cw c, Option.bind_some]
  exact wl_1 (by decide)
theorem w_outlet_i (I : CI B h (z, A)) {x : Int} (hx : InR x) {y : Int} (hy : InR y) {v : Int} (hv : InR v) (cw : ¬ (0 ≤ x ∧ x < z 184 ∧ 0 ≤ y ∧ y < z (31 * x.toNat))) {X0 : Int32} (eX0 : X0 = iI x) {X1 : Int32} (eX1 : X1 = iI y) {X2 : Int32} (eX2 : X2 = iI v) : f_Q_outlet h 180 X0 X1 X2 = some (xIX, h) := by
  subst eX0
  subst eX1
  subst eX2
  unfold f_Q_outlet
  rw [k_outlet_i I hx hy hv cw, Option.bind_some]
  exact wl_0
theorem w_dealer (I : CI B h (z, A)) {x : Int} (hx : InR x) {y : Int} (hy : InR y) {v : Int} (hv : InR v) (c : kindP x y v) (c4 : ¬ z 185 = 10) {X0 : Int32} (eX0 : X0 = iI x) {X1 : Int32} (eX1 : X1 = iI y) {X2 : Int32} (eX2 : X2 = iI v) : ∃ h2, f_Q_dealer h 180 X0 X1 X2 = some (li (z 185), h2) ∧ CI B h2 (pushA (z, A) (zdl z x y v)) := by
  subst eX0
  subst eX1
  subst eX2
  obtain ⟨u2, g1, g2⟩ := k_dealer I hx hy hv c c4
  refine ⟨u2, ?_, g2⟩
  unfold f_Q_dealer
  rw [g1, Option.bind_some]
  rfl
theorem w_dealer_s (I : CI B h (z, A)) {x : Int} (hx : InR x) {y : Int} (hy : InR y) {v : Int} (hv : InR v) (c : kindP x y v) (c4 : z 185 = 10) {X0 : Int32} (eX0 : X0 = iI x) {X1 : Int32} (eX1 : X1 = iI y) {X2 : Int32} (eX2 : X2 = iI v) : f_Q_dealer h 180 X0 X1 X2 = some (xST, h) := by
  subst eX0
  subst eX1
  subst eX2
  unfold f_Q_dealer
  rw [k_dealer_s I hx hy hv c c4, Option.bind_some]
  exact wl_1 (by decide)
theorem w_dealer_a (I : CI B h (z, A)) {x : Int} (hx : InR x) {y : Int} (hy : InR y) {v : Int} (hv : InR v) (c : ¬ kindP x y v) {X0 : Int32} (eX0 : X0 = iI x) {X1 : Int32} (eX1 : X1 = iI y) {X2 : Int32} (eX2 : X2 = iI v) : f_Q_dealer h 180 X0 X1 X2 = some (xAR, h) := by
  subst eX0
  subst eX1
  subst eX2
  unfold f_Q_dealer
  rw [k_dealer_a I hx hy hv c, Option.bind_some]
  exact wl_0
theorem w_set (I : CI B h (z, A)) {x : Int} (hx : InR x) {v : Int} (hv : InR v) (c : setP x v) {X0 : Int32} (eX0 : X0 = iI x) {X1 : Int32} (eX1 : X1 = iI v) : ∃ h2, f_Q_set h 180 X0 X1 = some (li (z (190 + x.toNat)), h2) ∧ CI B h2 (pushA (z, A) (uI z (190 + x.toNat) v)) := by
  subst eX0
  subst eX1
  obtain ⟨u2, g1, g2⟩ := k_set I hx hv c
  refine ⟨u2, ?_, g2⟩
  unfold f_Q_set
  rw [g1, Option.bind_some]
  rfl
theorem w_set_a (I : CI B h (z, A)) {x : Int} (hx : InR x) {v : Int} (hv : InR v) (c : ¬ setP x v) {X0 : Int32} (eX0 : X0 = iI x) {X1 : Int32} (eX1 : X1 = iI v) : f_Q_set h 180 X0 X1 = some (xAR, h) := by
  subst eX0
  subst eX1
  unfold f_Q_set
  rw [k_set_a I hx hv c, Option.bind_some]
  exact wl_0
theorem w_days (I : CI B h (z, A)) {v : Int} (hv : InR v) (c : 1 ≤ v ∧ v ≤ 60) {X0 : Int32} (eX0 : X0 = iI v) : ∃ h2, f_Q_days h 180 X0 = some (li (v.toNat * rtsZ z), h2) ∧ CI (B + 42000) h2 (pushA (z, A) (zdy z v.toNat)) := by
  subst eX0
  obtain ⟨u2, g1, g2⟩ := k_days I hv c
  refine ⟨u2, ?_, g2⟩
  unfold f_Q_days
  rw [g1, Option.bind_some]
  rfl
theorem w_days_a (I : CI B h (z, A)) {v : Int} (hv : InR v) (c : ¬ (1 ≤ v ∧ v ≤ 60)) {X0 : Int32} (eX0 : X0 = iI v) : f_Q_days h 180 X0 = some (xAR, h) := by
  subst eX0
  unfold f_Q_days
  rw [k_days_a I hv c, Option.bind_some]
  exact wl_0
theorem w_place (I : CI B h (z, A)) {x : Int} (hx : InR x) {y : Int} (hy : InR y) {v : Int} (hv : InR v) (cd : 0 ≤ x ∧ x < z 185) (cw : 0 ≤ y ∧ y < z 184 ∧ 0 ≤ v ∧ v < z (31 * y.toNat)) {X0 : Int32} (eX0 : X0 = iI x) {X1 : Int32} (eX1 : X1 = iI y) {X2 : Int32} (eX2 : X2 = iI v) : ∃ h2, f_Q_place h 180 X0 X1 X2 = some (li (rsnP z x.toNat y v), h2) ∧ CI B h2 (pushA (z, A) (plcZ z x.toNat y v)) := by
  subst eX0
  subst eX1
  subst eX2
  obtain ⟨u2, g1, g2⟩ := k_place I hx hy hv cd cw
  refine ⟨u2, ?_, g2⟩
  unfold f_Q_place
  rw [g1, Option.bind_some]
  rfl
theorem w_place_i (I : CI B h (z, A)) {x : Int} (hx : InR x) {y : Int} (hy : InR y) {v : Int} (hv : InR v) (cd : 0 ≤ x ∧ x < z 185) (cw : ¬ (0 ≤ y ∧ y < z 184 ∧ 0 ≤ v ∧ v < z (31 * y.toNat))) {X0 : Int32} (eX0 : X0 = iI x) {X1 : Int32} (eX1 : X1 = iI y) {X2 : Int32} (eX2 : X2 = iI v) : f_Q_place h 180 X0 X1 X2 = some (xIX, h) := by
  subst eX0
  subst eX1
  subst eX2
  unfold f_Q_place
  rw [k_place_i I hx hy hv cd cw, Option.bind_some]
  exact wl_0
theorem w_place_j (I : CI B h (z, A)) {x : Int} (hx : InR x) {y : Int} (hy : InR y) {v : Int} (hv : InR v) (cd : ¬ (0 ≤ x ∧ x < z 185)) {X0 : Int32} (eX0 : X0 = iI x) {X1 : Int32} (eX1 : X1 = iI y) {X2 : Int32} (eX2 : X2 = iI v) : f_Q_place h 180 X0 X1 X2 = some (xIX, h) := by
  subst eX0
  subst eX1
  subst eX2
  unfold f_Q_place
  rw [k_place_j I hx hy hv cd, Option.bind_some]
  exact wl_0
theorem w_leave (I : CI B h (z, A)) {x : Int} (hx : InR x) (cd : 0 ≤ x ∧ x < z 185) (c : ¬ z (127 + 6 * x.toNat) = -1) {X0 : Int32} (eX0 : X0 = iI x) : ∃ h2, f_Q_leave h 180 X0 = some (li (z (129 + 6 * x.toNat)), h2) ∧ CI B h2 (pushA (z, A) (zst z x.toNat (-1) (-1))) := by
  subst eX0
  obtain ⟨u2, g1, g2⟩ := k_leave I hx cd c
  refine ⟨u2, ?_, g2⟩
  unfold f_Q_leave
  rw [g1, Option.bind_some]
  rfl
theorem w_leave_s (I : CI B h (z, A)) {x : Int} (hx : InR x) (cd : 0 ≤ x ∧ x < z 185) (c : z (127 + 6 * x.toNat) = -1) {X0 : Int32} (eX0 : X0 = iI x) : f_Q_leave h 180 X0 = some (xST, h) := by
  subst eX0
  unfold f_Q_leave
  rw [k_leave_s I hx cd c, Option.bind_some]
  exact wl_1 (by decide)
theorem w_leave_i (I : CI B h (z, A)) {x : Int} (hx : InR x) (cd : ¬ (0 ≤ x ∧ x < z 185)) {X0 : Int32} (eX0 : X0 = iI x) : f_Q_leave h 180 X0 = some (xIX, h) := by
  subst eX0
  unfold f_Q_leave
  rw [k_leave_i I hx cd, Option.bind_some]
  exact wl_0
theorem w_swap (I : CI B h (z, A)) {x : Int} (hx : InR x) {y : Int} (hy : InR y) (cd : 0 ≤ x ∧ x < z 185) (ce : 0 ≤ y ∧ y < z 185) (cxy : ¬ x = y) {X0 : Int32} (eX0 : X0 = iI x) {X1 : Int32} (eX1 : X1 = iI y) : ∃ h2, f_Q_swap h 180 X0 X1 = some (li (rsnS z x.toNat y.toNat), h2) ∧ CI B h2 (pushA (z, A) (swpZ z x.toNat y.toNat)) := by
  subst eX0
  subst eX1
  obtain ⟨u2, g1, g2⟩ := k_swap I hx hy cd ce cxy
  refine ⟨u2, ?_, g2⟩
  unfold f_Q_swap
  rw [g1, Option.bind_some]
  rfl
theorem w_swap_a (I : CI B h (z, A)) {x : Int} (hx : InR x) {y : Int} (hy : InR y) (cd : 0 ≤ x ∧ x < z 185) (ce : 0 ≤ y ∧ y < z 185) (cxy : x = y) {X0 : Int32} (eX0 : X0 = iI x) {X1 : Int32} (eX1 : X1 = iI y) : f_Q_swap h 180 X0 X1 = some (xAR, h) := by
  subst eX0
  subst eX1
  unfold f_Q_swap
  rw [k_swap_a I hx hy cd ce cxy, Option.bind_some]
  exact wl_1 (by decide)
theorem w_swap_j (I : CI B h (z, A)) {x : Int} (hx : InR x) {y : Int} (hy : InR y) (cd : 0 ≤ x ∧ x < z 185) (ce : ¬ (0 ≤ y ∧ y < z 185)) {X0 : Int32} (eX0 : X0 = iI x) {X1 : Int32} (eX1 : X1 = iI y) : f_Q_swap h 180 X0 X1 = some (xIX, h) := by
  subst eX0
  subst eX1
  unfold f_Q_swap
  rw [k_swap_j I hx hy cd ce, Option.bind_some]
  exact wl_0
theorem w_swap_i (I : CI B h (z, A)) {x : Int} (hx : InR x) {y : Int} (hy : InR y) (cd : ¬ (0 ≤ x ∧ x < z 185)) {X0 : Int32} (eX0 : X0 = iI x) {X1 : Int32} (eX1 : X1 = iI y) : f_Q_swap h 180 X0 X1 = some (xIX, h) := by
  subst eX0
  subst eX1
  unfold f_Q_swap
  rw [k_swap_i I hx hy cd, Option.bind_some]
  exact wl_0
theorem w_undo_s (I : CI B h (z, ys, c, A3)) (c0 : c = 0)  : f_Q_undo h 180 = some (xST, h) := by
  unfold f_Q_undo
  rw [k_undo_s I c0, Option.bind_some]
  exact wl_0
theorem w_undo (I : CI B h (z, ys, c, A3)) (c0 : ¬ c = 0)  : ∃ h2, f_Q_undo h 180 = some (li ((c - 1 : Nat) : Int), h2) ∧ CI B h2 (ys (c - 1), ys, c - 1, A3) := by
  obtain ⟨u2, g1, g2⟩ := k_undo I c0
  refine ⟨u2, ?_, g2⟩
  unfold f_Q_undo
  rw [g1, Option.bind_some]
  rfl
theorem w_save_i (I : CI B h (z, A)) {x : Int} (hx : InR x) (c : ¬ (0 ≤ x ∧ x ≤ 1)) {X0 : Int32} (eX0 : X0 = iI x) : f_Q_save h 180 X0 = some (xIX, h) := by
  subst eX0
  unfold f_Q_save
  rw [k_save_i I hx c, Option.bind_some]
  exact wl_0
theorem w_save (I : CI B h (z, ys, c, kb, ks, t, n)) {s : Nat} (hs : s < 2) {X0 : Int32} (eX0 : X0 = iI s) : ∃ h2, f_Q_save h 180 X0 = some (li (z 186), h2) ∧ CI B h2 (z, ys, c, (fun k => if k = s then true else kb k), (fun k => if k = s then z else ks k), t, n) := by
  subst eX0
  obtain ⟨u2, g1, g2⟩ := k_save I hs
  refine ⟨u2, ?_, g2⟩
  unfold f_Q_save
  rw [g1, Option.bind_some]
  rfl
theorem w_restore_i (I : CI B h (z, A)) {x : Int} (hx : InR x) (c : ¬ (0 ≤ x ∧ x ≤ 1)) {X0 : Int32} (eX0 : X0 = iI x) : f_Q_restore h 180 X0 = some (xIX, h) := by
  subst eX0
  unfold f_Q_restore
  rw [k_restore_i I hx c, Option.bind_some]
  exact wl_0
theorem w_restore_s (I : CI B h (z, ys, c, kb, ks, t, n)) {s : Nat} (hs : s < 2) (c0 : ¬ kb s = true) {X0 : Int32} (eX0 : X0 = iI s) : f_Q_restore h 180 X0 = some (xST, h) := by
  subst eX0
  unfold f_Q_restore
  rw [k_restore_s I hs c0, Option.bind_some]
  exact wl_1 (by decide)
theorem w_restore (I : CI B h (z, ys, c, kb, ks, t, n)) {s : Nat} (hs : s < 2) (c0 : kb s = true) {X0 : Int32} (eX0 : X0 = iI s) : ∃ h2, f_Q_restore h 180 X0 = some (li (ks s 186), h2) ∧ CI B h2 (ks s, ys, 0, kb, ks, t, n) := by
  subst eX0
  obtain ⟨u2, g1, g2⟩ := k_restore I hs c0
  refine ⟨u2, ?_, g2⟩
  unfold f_Q_restore
  rw [g1, Option.bind_some]
  rfl
theorem w_append_a (I : CI B h (z, A)) {x : Int} (hx : InR x) (c : ¬ (0 ≤ x ∧ x ≤ 255)) {X0 : Int32} (eX0 : X0 = iI x) : f_Q_append h 180 X0 = some (xAR, h) := by
  subst eX0
  unfold f_Q_append
  rw [k_append_a I hx c, Option.bind_some]
  exact wl_0
theorem w_append (I : CI B h (z, ys, c, kb, ks, t, n)) {x : Int} (cx : 0 ≤ x ∧ x ≤ 255) (cn : ¬ n = 120) {X0 : Int32} (eX0 : X0 = iI x) : ∃ h2, f_Q_append h 180 X0 = some (li ((n : Int) + 1), h2) ∧ CI B h2 (z, ys, c, kb, ks, uI t n x, n + 1) := by
  subst eX0
  obtain ⟨u2, g1, g2⟩ := k_append I cx cn
  refine ⟨u2, ?_, g2⟩
  unfold f_Q_append
  rw [g1, Option.bind_some]
  rfl
theorem n_append (I : CI B h (z, ys, c, kb, ks, t, n)) {x : Int} (cx : 0 ≤ x ∧ x ≤ 255) (cn : ¬ n = 120) {X0 : Int32} (eX0 : X0 = iI x) : ∃ h2, g_Q_append h 180 X0 = some (li ((n : Int) + 1), h2) ∧ CI B h2 (z, ys, c, kb, ks, uI t n x, n + 1) := by
  subst eX0
  obtain ⟨u2, g1, g2⟩ := k_append I cx cn
  refine ⟨u2, ?_, g2⟩
  unfold g_Q_append
  rw [g1, Option.bind_some]
  rfl
theorem w_load_s (I : CI B h (z, A)) (c : ¬ errZ A.2.2.2.2.1 A.2.2.2.2.2 = -1)  : ∃ h1, f_Q_load h 180 = some (xST, h1) ∧ QF h h1 := by
  obtain ⟨u2, g1, g2⟩ := k_load_s I c
  refine ⟨u2, ?_, g2⟩
  unfold f_Q_load
  rw [g1, Option.bind_some]
  exact wl_0
theorem w_load (I : CI B h (z, ys, c, kb, ks, t, n)) (hB0 : 5040000 ≤ B) (c : errZ t n = -1)  : ∃ h2, f_Q_load h 180 = some (li (prs t n 120 1 0 zini).2.1, h2) ∧ CI B h2 ((prs t n 120 1 0 zini).2.2, ys, 0, (fun _ => false), ks, t, n) := by
  obtain ⟨u2, g1, g2⟩ := k_load I hB0 c
  refine ⟨u2, ?_, g2⟩
  unfold f_Q_load
  rw [g1, Option.bind_some]
  rfl
end WRAPS
