/-! what changes a row: a wall more -/
def zwl (z : Nat → Int) (v : Int) : Nat → Int := uI (uI z (31 * (z 184).toNat) v) 184 (z 184 + 1)
section WALLS
variable {h : HP} {a b p : Nat} {z : Nat → Int}
theorem zwl_n (F : WF z) (h4 : z 184 < 4) (v : Int) {k : Nat} (h1 : k ≠ 184) (h2 : k ≠ 31 * (z 184).toNat) : zwl z v k = z k := by
  unfold zwl
  rw [uI_n _ _ h1, uI_n _ _ h2]
theorem wf_wall (F : WF z) (h4 : z 184 < 4) {v : Int} (hv : 4 ≤ v ∧ v ≤ 30) : WF (zwl z v) := by
  obtain ⟨g1, g2, g3, g4, g5, g6, g7, g8, g9, g10⟩ := id F
  have n : ∀ k : Nat, k ≠ 184 → (124 ≤ k ∨ k % 31 ≠ 0) → zwl z v k = z k := fun k h1 h2 => zwl_n F h4 v h1 (by omega)
  have e184 : zwl z v 184 = z 184 + 1 := uI_s _ _ _
  refine ⟨by rw [e184]; omega, by rw [n _ (by omega) (by omega)]; exact g2, by rw [n _ (by omega) (by omega)]; exact g3, fun e he => ?_, fun e m he hm => by rw [n _ (by omega) (by omega)]; exact g5 e m he hm, fun d hd => ?_, fun d hd h2 => ?_, fun d e hd he hde h2 h3 h4' h5 => ?_, fun j hj => by rw [n _ (by omega) (by omega)]; exact g9 j hj, by rw [n _ (by omega) (by omega), n _ (by omega) (by omega)]; exact g10⟩
  · by_cases q : e = (z 184).toNat
    · have : zwl z v (31 * e) = v := by unfold zwl; rw [uI_n _ _ (by omega), q, uI_s]
      rw [this]; omega
    · rw [zwl_n F h4 v (by omega) (by omega)]
      exact g4 e he
  · rw [n (124 + 6 * d) (by omega) (by omega), n 185 (by omega) (by omega), n (125 + 6 * d) (by omega) (by omega), n (126 + 6 * d) (by omega) (by omega)]
    exact g6 d hd
  · rw [n 185 (by omega) (by omega)] at h2
    rw [n (127 + 6 * d) (by omega) (by omega), n (128 + 6 * d) (by omega) (by omega), e184, n (125 + 6 * d) (by omega) (by omega)]
    rcases g7 d hd h2 with q | ⟨p1, p2, p3, p4⟩
    · exact Or.inl q
    · exact Or.inr ⟨p1, by omega, p3, by rw [zwl_n F h4 v (by omega) (by omega)]; exact p4⟩
  · rw [n 185 (by omega) (by omega)] at h2 h3
    rw [n (127 + 6 * d) (by omega) (by omega)] at h4' h5
    rw [n (127 + 6 * e) (by omega) (by omega)] at h5
    rw [n (128 + 6 * d) (by omega) (by omega), n (125 + 6 * d) (by omega) (by omega), n (128 + 6 * e) (by omega) (by omega), n (125 + 6 * e) (by omega) (by omega)]
    exact g8 d e hd he hde h2 h3 h4' h5
theorem share_wall (F : WF z) (h4 : z 184 < 4) (v : Int) : shareZ (zwl z v) = shareZ z := by
  obtain ⟨⟨w1, w2⟩, ⟨n1, n2⟩, -, -, -, -, g7, -⟩ := id F
  have n : ∀ k : Nat, k ≠ 184 → 124 ≤ k → zwl z v k = z k := fun k h1 h2 => zwl_n F h4 v h1 (by omega)
  have E : Same z (zwl z v) (z 185).toNat (z 184).toNat := by
    refine ⟨fun k h1 h2 => zwl_n F h4 v (by omega) h2, n _ (by omega) (by omega), fun d hd => ⟨n _ (by omega) (by omega), n _ (by omega) (by omega), n _ (by omega) (by omega), n _ (by omega) (by omega), ?_⟩⟩
    rcases g7 d (by omega) (by omega) with q | q <;> omega
  unfold shareZ
  rw [n 185 (by omega) (by omega)]
  exact share_cong F E _ (Nat.le_refl _) (by omega)
theorem a_openWall (RA : RepA h a b p z) (h4 : z 184 < 4) {v : Int} (hv : 4 ≤ v ∧ v ≤ 30) : ∃ h' : HP, f_A_openWall h a (iI v) = some (iI (z 184), h') ∧ RepA h' a b p (zwl z v) ∧ (∀ i, ¬ own b p i → h' i = h i) ∧ h' b 13 = h b 13 := by
  obtain ⟨S, R, RP, F⟩ := id RA
  obtain ⟨⟨w1, w2⟩, -⟩ := id F
  have hp : p = 184 ∨ p = 188 := S.ps
  have hb := S.bs.1
  have hb2 := S.bs.2
  have e1 : (iI (z 184)).toNatClampNeg = (z 184).toNat := iI_cl (by omega) (by omega)
  have e2 : ib (iI (z 184)) 4 = true := iI_ib (by omega) (by omega) (by omega)
  have R1 : RepS (hset (hset h (b + 1) (z 184).toNat (iI v)) b 9 (iI (z 184 + 1))) b (zwl z v) := (R.setW (w := (z 184).toNat) (by omega) v).setB (s := 9) (i := 184) (Or.inl ⟨rfl, rfl⟩) _
  have q9 : hset h (b + 1) (z 184).toNat (iI v) b 9 = iI (z 184) := by rw [hset_n _ _ _ (by omega)]; exact R.nw
  have q9' : hset (hset h (b + 1) (z 184).toNat (iI v)) b 9 (iI (z 184 + 1)) b 9 = iI (z 184 + 1) := by rw [hset_s, upd_s]
  have b1 : isB 1 = true := by decide
  unfold f_A_openWall f_A_isLength
  rw [lI4, show (30 : Int32) = iI 30 from lI30, inRange ⟨by omega, by omega⟩ ⟨by decide, by decide⟩ ⟨by decide, by decide⟩, Option.bind_some, if_pos hv, b1, if_pos rfl, Option.bind_some, if_neg (by decide), S.f0, R.nw, lI0, tLt (by omega) (by omega) (by omega) (by omega), if_neg (by omega), tLt (by omega) (by omega) (by omega) (by omega), if_pos h4, e2, if_pos rfl, e1, S.bs.fld, show b + 1 + 0 = b + 1 by omega, Option.bind_some, q9, lI1, iI_add, Option.bind_some, q9', iI_sub, show z 184 + 1 - 1 = z 184 by omega]
  refine ⟨_, rfl, ⟨S, R1, ?_, wf_wall F h4 hv⟩, fun i hi => ?_, ?_⟩
  · rw [share_wall F h4 v]
    refine ⟨fun i hi => ?_, fun d hd => ?_, fun d k hd hk hlt => ?_⟩
    · rw [hset_n _ _ _ (by omega), hset_n _ _ _ (by omega)]; exact RP.1 i hi
    · rw [hset_n _ _ _ (by omega), hset_n _ _ _ (by omega)]; exact RP.2.1 d hd
    · rw [hset_n _ _ _ (by omega), hset_n _ _ _ (by omega)]; exact RP.2.2 d k hd hk hlt
  · have n0 : i ≠ b := fun q => hi (Or.inl (by omega))
    have n1 : i ≠ b + 1 := fun q => hi (Or.inl (by omega))
    rw [hset_n _ _ _ n0, hset_n _ _ _ n1]
  · rw [hset_s, upd_n _ _ (by decide), hset_n _ _ _ (by omega)]
end WALLS
