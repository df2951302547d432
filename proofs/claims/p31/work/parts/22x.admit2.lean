/-! the class's taking in of a dealer -/
section ADMIT2
variable {h : HP} {a b p : Nat} {z : Nat → Int}
theorem a_admit (RA : RepA h a b p z) (h10 : z 185 < 10) (O : z (129 + 6 * (z 185).toNat) = 0) {g f w : Int} (hg : 0 ≤ g ∧ g ≤ 5) (hf : 1 ≤ f ∧ f ≤ 9) (hw : 0 ≤ w ∧ w ≤ 3) : ∃ h' : HP, f_A_admit h a (iI g) (iI f) (iI w) = some (iI (z 185), h') ∧ RepA h' a b p (zdl z g f w) ∧ (∀ i, ¬ own b p i → h' i = h i) ∧ h' b 13 = h b 13 := by
  obtain ⟨S, R, RP, F⟩ := id RA
  obtain ⟨-, ⟨n1, n2⟩, -⟩ := id F
  have hp : p = 184 ∨ p = 188 := S.ps
  have hb := S.bs.1
  have hb2 := S.bs.2
  have e1 : (iI (z 185)).toNatClampNeg = (z 185).toNat := iI_cl (by omega) (by omega)
  have e2 : ib (iI (z 185)) 10 = true := iI_ib (by omega) (by omega) (by omega)
  have R1 := R.dealer F h10 O g f w
  unfold f_A_admit f_A_isDealer
  rw [lI0, lI5, lI1, lI9, lI3, inRange ⟨by omega, by omega⟩ ⟨by decide, by decide⟩ ⟨by decide, by decide⟩, inRange ⟨by omega, by omega⟩ ⟨by decide, by decide⟩ ⟨by decide, by decide⟩, inRange ⟨by omega, by omega⟩ ⟨by decide, by decide⟩ ⟨by decide, by decide⟩, Option.bind_some, if_pos hg, if_neg (by decide), Option.bind_some, if_pos hf, if_neg (by decide), Option.bind_some, if_pos hw, if_neg (by decide), Option.bind_some, if_neg (by decide), S.f0, R.nd, tLt (by omega) (by omega) (by omega) (by omega), if_neg (by omega), lI10, tLt (by omega) (by omega) (by omega) (by omega), if_pos h10, e2, if_pos rfl, e1, Option.bind_some, if_pos rfl, Option.bind_some, if_pos rfl, Option.bind_some, if_pos rfl, Option.bind_some, if_pos rfl, Option.bind_some, if_pos rfl, Option.bind_some, iI_add, Option.bind_some, iI_neg, S.bs.fld, S.bs.fld, S.bs.fld, S.bs.fld, S.bs.fld, S.bs.fld, show b + 1 + 2 = b + 3 by omega, show b + 1 + 3 = b + 4 by omega, show b + 1 + 4 = b + 5 by omega, show b + 1 + 5 = b + 6 by omega, show b + 1 + 6 = b + 7 by omega, show b + 1 + 7 = b + 8 by omega]
  refine ⟨_, rfl, ⟨S, R1, ?_, wf_dealer F h10 hg hf hw⟩, fun i hi => ?_, ?_⟩
  · rw [share_dealer F h10 g f w]
    have fr : ∀ i, ¬ (b ≤ i ∧ i < b + 10) → (hset (hset (hset (hset (hset (hset (hset h (b + 3) (z 185).toNat (iI g)) (b + 4) (z 185).toNat (iI f)) (b + 5) (z 185).toNat (iI w)) (b + 6) (z 185).toNat (iI (-1))) (b + 7) (z 185).toNat (iI (-1))) (b + 8) (z 185).toNat (iI 0)) b 10 (iI (z 185 + 1))) i = h i := fun i hi => by
      rw [hset_n _ _ _ (by omega), hset_n _ _ _ (by omega), hset_n _ _ _ (by omega), hset_n _ _ _ (by omega), hset_n _ _ _ (by omega), hset_n _ _ _ (by omega), hset_n _ _ _ (by omega)]
    refine ⟨fun i hi => ?_, fun d hd => ?_, fun d k hd hk hlt => ?_⟩
    · rw [fr _ (by omega)]; exact RP.1 i hi
    · rw [fr _ (by omega)]; exact RP.2.1 d hd
    · rw [fr _ (by omega)]; exact RP.2.2 d k hd hk hlt
  · have hi' : ¬ (b ≤ i ∧ i < b + 10) := fun q => hi (Or.inl q)
    rw [hset_n _ _ _ (by omega), hset_n _ _ _ (by omega), hset_n _ _ _ (by omega), hset_n _ _ _ (by omega), hset_n _ _ _ (by omega), hset_n _ _ _ (by omega), hset_n _ _ _ (by omega)]
  · rw [hset_s, upd_n _ _ (by decide), hset_n _ _ _ (by omega), hset_n _ _ _ (by omega), hset_n _ _ _ (by omega), hset_n _ _ _ (by omega), hset_n _ _ _ (by omega), hset_n _ _ _ (by omega)]
end ADMIT2
