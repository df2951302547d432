/-! what changes a row: plugs, settings, on both sides -/
section PUTS2
variable {h : HP} {a b p : Nat} {z : Nat → Int}
theorem inRange {x l u : Int} (hx : InR x) (hl : InR l) (hu : InR u) : f_F_inRange h (iI x) (iI l) (iI u) = some (if l ≤ x ∧ x ≤ u then 1 else 0) := by
  obtain ⟨x1, x2⟩ := hx
  obtain ⟨l1, l2⟩ := hl
  obtain ⟨u1, u2⟩ := hu
  unfold f_F_inRange
  rw [tLt (by omega) (by omega) (by omega) (by omega), tLt (by omega) (by omega) (by omega) (by omega)]
  by_cases c1 : x < l
  · rw [if_pos c1, if_neg (by omega)]
  · rw [if_neg c1]
    by_cases c2 : u < x
    · rw [if_pos c2, if_neg (by omega)]
    · rw [if_neg c2, if_pos (by omega)]
theorem a_putPlugs (RA : RepA h a b p z) {w m : Nat} (hw : (w : Int) < z 184) (hm : (m : Int) < z (31 * w)) {v : Int} (hv : 0 ≤ v ∧ v ≤ 4) : ∃ h' : HP, f_A_putPlugs h a (iI w) (iI m) (iI v) = some (iI (z (31 * w + 1 + m)), h') ∧ RepA h' a b p (uI z (31 * w + 1 + m) v) ∧ (∀ i, ¬ own b p i → h' i = h i) ∧ h' b 13 = h b 13 := by
  obtain ⟨S, R, RP, F⟩ := id RA
  obtain ⟨⟨w1, w2⟩, -⟩ := id F
  have hL := F.2.2.2.1 w (by omega)
  have hp : p = 184 ∨ p = 188 := S.ps
  have hb := S.bs.1
  have hb2 := S.bs.2
  have cM : 0 ≤ (w : Int) ∧ (w : Int) < z 184 ∧ 0 ≤ (m : Int) ∧ (m : Int) < z (31 * (w : Int).toNat) := by
    rw [show (w : Int).toNat = w by omega]
    omega
  have e3 : (iI ((w : Int) * 30 + m)).toNatClampNeg = 30 * w + m := by
    rw [iI_cl (by omega) (by omega)]
    omega
  have e4 : ib (iI ((w : Int) * 30 + m)) 120 = true := iI_ib (by omega) (by omega) (by omega)
  obtain ⟨h', g1, g2, g3⟩ := a_anew S (R.setP (w := w) (m := m) (by omega) (by omega) v) (wf_plug F (by omega) (by omega) hv)
  unfold f_A_putPlugs
  rw [S.f0, S.f1, s_hasMetre R S.bs F ⟨by omega, by omega⟩ ⟨by omega, by omega⟩, Option.bind_some, if_pos cM, if_neg (by decide), lI0, lI4, inRange ⟨by omega, by omega⟩ ⟨by decide, by decide⟩ ⟨by decide, by decide⟩, Option.bind_some, if_pos hv, if_neg (by decide), lI30, iI_mul, iI_add, e4, if_pos rfl, if_pos rfl, e3, Option.bind_some, S.bs.fld, show b + 1 + 1 = b + 2 by omega, R.plg (by omega) (by omega), g1, Option.bind_some]
  refine ⟨h', rfl, g2, fun i hi => ?_, ?_⟩
  · have n2 : i ≠ b + 2 := fun q => hi (Or.inl (by omega))
    rw [g3 i (fun q => hi (Or.inr q)), hset_n _ _ _ n2]
  · rw [g3 b (by omega), hset_n _ _ _ (by omega)]
def maxS (j : Nat) : Int := if j = 1 ∨ j = 5 then 9 else 50
theorem isSet {j : Nat} (hj : j < 6) {v : Int} (hv : InR v) : f_A_isSetting h (iI j) (iI v) = some (if 0 ≤ v ∧ v ≤ maxS j then 1 else 0) := by
  have cj : 0 ≤ (j : Int) ∧ (j : Int) ≤ 5 := by omega
  have em : sarr 213 j = iI (maxS j) := by
    rcases (by omega : j = 0 ∨ j = 1 ∨ j = 2 ∨ j = 3 ∨ j = 4 ∨ j = 5) with rfl | rfl | rfl | rfl | rfl | rfl <;> rfl
  have hm : 0 ≤ maxS j ∧ maxS j ≤ 50 := by unfold maxS; split <;> omega
  unfold f_A_isSetting
  rw [lI0, lI5, inRange ⟨by omega, by omega⟩ ⟨by decide, by decide⟩ ⟨by decide, by decide⟩, Option.bind_some, if_pos cj, if_neg (by decide), iI_ib (by omega) (by omega) (by omega), if_pos rfl, iI_cl (by omega) (by omega), show (j : Int).toNat = j by omega, em, inRange hv ⟨by decide, by decide⟩ ⟨by omega, by omega⟩, Option.bind_some]
  by_cases c : 0 ≤ v ∧ v ≤ maxS j
  · rw [if_pos c, if_neg (by decide), if_pos c]
  · rw [if_neg c, if_pos lI0, if_neg c]
theorem a_setting (RA : RepA h a b p z) {j : Nat} (hj : j < 6) {v : Int} (hv : 0 ≤ v ∧ v ≤ maxS j) : ∃ h' : HP, f_A_changeSetting h a (iI j) (iI v) = some (iI (z (190 + j)), h') ∧ RepA h' a b p (uI z (190 + j) v) ∧ (∀ i, ¬ own b p i → h' i = h i) ∧ h' b 13 = h b 13 := by
  obtain ⟨S, R, RP, F⟩ := id RA
  have hp : p = 184 ∨ p = 188 := S.ps
  have hb := S.bs.1
  have hb2 := S.bs.2
  have hm : 0 ≤ maxS j ∧ maxS j ≤ 50 ∧ (j = 1 ∨ j = 5 → maxS j = 9) := by
    unfold maxS
    split
    · exact ⟨by decide, by decide, fun _ => rfl⟩
    · rename_i q
      exact ⟨by decide, by decide, fun y => absurd y q⟩
  obtain ⟨h', g1, g2, g3⟩ := a_anew S (R.setS (j := j) hj v) (wf_set F hj ⟨hv.1, by omega⟩ (fun q => by have := hm.2.2 q; omega))
  have e3 : (iI (j : Int)).toNatClampNeg = j := by rw [iI_cl (by omega) (by omega)]; omega
  unfold f_A_changeSetting
  rw [isSet hj ⟨by omega, by omega⟩, Option.bind_some, if_pos hv, if_neg (by decide), iI_ib (by omega) (by omega) (by omega), if_pos rfl, if_pos rfl, e3, Option.bind_some, S.f0, S.f1, S.bs.fld, show b + 1 + 8 = b + 9 by omega, R.st hj, g1, Option.bind_some]
  refine ⟨h', rfl, g2, fun i hi => ?_, ?_⟩
  · have n2 : i ≠ b + 9 := fun q => hi (Or.inl (by omega))
    rw [g3 i (fun q => hi (Or.inr q)), hset_n _ _ _ n2]
  · rw [g3 b (by omega), hset_n _ _ _ (by omega)]
end PUTS2
