/-! what changes a row: a dealer more (the reference) -/
def zdl (z : Nat → Int) (g f w : Int) : Nat → Int := uI (uI (uI (uI (uI (uI z (124 + 6 * (z 185).toNat) g) (125 + 6 * (z 185).toNat) f) (126 + 6 * (z 185).toNat) w) (127 + 6 * (z 185).toNat) (-1)) (128 + 6 * (z 185).toNat) (-1)) 185 (z 185 + 1)
section DEALERS
variable {h : HP} {a b p : Nat} {z : Nat → Int}
theorem zdl_n (z : Nat → Int) (g f w : Int) {k : Nat} (h1 : k ≠ 185) (h2 : k < 124 + 6 * (z 185).toNat ∨ 129 + 6 * (z 185).toNat ≤ k) : zdl z g f w k = z k := by
  unfold zdl
  rw [uI_n _ _ h1, uI_n _ _ (by omega), uI_n _ _ (by omega), uI_n _ _ (by omega), uI_n _ _ (by omega), uI_n _ _ (by omega)]
theorem zdl_185 (z : Nat → Int) (g f w : Int) : zdl z g f w 185 = z 185 + 1 := uI_s _ _ _
theorem m_addDealer (R : RepM h a z) (F : WF z) (h10 : z 185 < 10) (g f w : Int) : ∃ h' : HP, f_M_addDealer h a (iI g) (iI f) (iI w) = some (iI (z 185), h') ∧ RepM h' a (zdl z g f w) ∧ ∀ i, i ≠ a → h' i = h i := by
  obtain ⟨-, ⟨n1, n2⟩, -⟩ := id F
  have ed : iI (z 185) = iI (((z 185).toNat : Nat) : Int) := by congr 1; omega
  have hd : (z 185).toNat < 10 := by omega
  have c0 : (iI (124 + 6 * (((z 185).toNat : Nat) : Int) + 0)).toNatClampNeg = 124 + 6 * (z 185).toNat := by rw [iI_cl (by omega) (by omega)]; omega
  have c1 : (iI (124 + 6 * (((z 185).toNat : Nat) : Int) + 1)).toNatClampNeg = 125 + 6 * (z 185).toNat := by rw [iI_cl (by omega) (by omega)]; omega
  have c2 : (iI (124 + 6 * (((z 185).toNat : Nat) : Int) + 2)).toNatClampNeg = 126 + 6 * (z 185).toNat := by rw [iI_cl (by omega) (by omega)]; omega
  have c3 : (iI (124 + 6 * (((z 185).toNat : Nat) : Int) + 3)).toNatClampNeg = 127 + 6 * (z 185).toNat := by rw [iI_cl (by omega) (by omega)]; omega
  have c4 : (iI (124 + 6 * (((z 185).toNat : Nat) : Int) + 4)).toNatClampNeg = 128 + 6 * (z 185).toNat := by rw [iI_cl (by omega) (by omega)]; omega
  have R5 := ((((R.set (k := 124 + 6 * (z 185).toNat) (by omega) g).set (k := 125 + 6 * (z 185).toNat) (by omega) f).set (k := 126 + 6 * (z 185).toNat) (by omega) w).set (k := 127 + 6 * (z 185).toNat) (by omega) (-1)).set (k := 128 + 6 * (z 185).toNat) (by omega) (-1)
  have R6 := R5.set (k := 185) (by decide) (z 185 + 1)
  have q5 := R5.c185
  rw [uI_n _ _ (by omega), uI_n _ _ (by omega), uI_n _ _ (by omega), uI_n _ _ (by omega), uI_n _ _ (by omega)] at q5
  unfold f_M_addDealer
  rw [ib_185, if_pos rfl, cl_185, R.c185, ed, m_spot, Option.bind_some, lI0, lI1, lI2, lI3, lI4, iI_neg, iI_add, ib_d0 hd, if_pos rfl, c0, Option.bind_some, iI_add, ib_d1 hd, if_pos rfl, c1, Option.bind_some, iI_add, ib_d2 hd, if_pos rfl, c2, Option.bind_some, iI_add, ib_d3 hd, if_pos rfl, c3, Option.bind_some, iI_add, ib_d4 hd, if_pos rfl, c4, Option.bind_some, if_pos rfl, if_pos rfl, q5, iI_add, Option.bind_some, if_pos rfl, hset_s, upd_s, iI_sub, ← ed, show z 185 + 1 - 1 = z 185 by omega]
  exact ⟨_, rfl, R6, fun i hi => by rw [hset_n _ _ _ hi, hset_n _ _ _ hi, hset_n _ _ _ hi, hset_n _ _ _ hi, hset_n _ _ _ hi, hset_n _ _ _ hi]⟩
end DEALERS
