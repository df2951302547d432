/-! the law's calls: actions -/
section CALLA
variable {h g : HP} {a b p : Nat} {z : Nat → Int} {B : Int}
theorem f02 : fld 180 2 = 192 := rfl
theorem RepA.s13 (RA : RepA h 182 0 184 z) (v : Int32) : RepA (hset h 0 13 v) 182 0 184 z := by
  obtain ⟨S, ⟨⟨r1, r2, r3, r4⟩, r5, r6, r7, r8⟩, RP, F⟩ := RA
  refine ⟨S, ⟨⟨?_, ?_, ?_, ?_⟩, fun w hw => ?_, fun w m hw hm => ?_, fun d k hd h2 hk => ?_, fun j hj => ?_⟩, RP.fr (hset_n _ _ _ (by decide)) (hset_n _ _ _ (by decide)) (hset_n _ _ _ (by decide)), F⟩
  · rw [hset_s, upd_n _ _ (by decide)]; exact r1
  · rw [hset_s, upd_n _ _ (by decide)]; exact r2
  · rw [hset_s, upd_n _ _ (by decide)]; exact r3
  · rw [hset_s, upd_n _ _ (by decide)]; exact r4
  · rw [hset_n _ _ _ (by omega)]; exact r5 w hw
  · rw [hset_n _ _ _ (by omega)]; exact r6 w m hw hm
  · rw [hset_n _ _ _ (by omega)]; exact r7 d k hd h2 hk
  · rw [hset_n _ _ _ (by omega)]; exact r8 j hj
theorem a_count0 : f_A_countRefusal h 182 (iI 0) = some (iI 0, h) := by
  unfold f_A_countRefusal
  rw [if_pos lI0.symm]
theorem a_count1 (RA : RepA h 182 0 184 z) (h13 : h 0 13 = iI (z 188)) {r : Int} (hr : 0 ≤ r ∧ r ≤ 4) (h0 : r ≠ 0) : ∃ h', f_A_countRefusal h 182 (iI r) = some (iI r, h') ∧ RepA h' 182 0 184 (uI z 188 (z 188 + 1)) ∧ h' 0 13 = iI (uI z 188 (z 188 + 1) 188) ∧ ∀ i, ¬ own 0 184 i → h' i = h i := by
  unfold f_A_countRefusal
  rw [lI0, tEq (by omega) (by omega) (by omega) (by omega), if_neg h0, show fld 182 0 = 0 from rfl, h13, lI1, iI_add, Option.bind_some]
  refine ⟨_, rfl, (RA.s13 _).l89 (fun k h1 h2 _ => uI_n _ _ h2), ?_, fun i hi => hset_n _ _ _ (fun q => hi (Or.inl (by omega)))⟩
  rw [hset_s, upd_s, uI_s]
theorem q_wall (I : INV B h) (v : Int32) : Ans B h ["java/lang/IllegalArgumentException", "java/lang/IllegalStateException"] (fun h => f_F_wall h 180 v) (fun h => f_M_wall h 200 v) := by
  obtain ⟨z, MI⟩ := I.1
  obtain ⟨RA, RM, h13, K⟩ := id MI
  obtain ⟨S, R, RP, F⟩ := id RA
  obtain ⟨⟨w1, w2⟩, ⟨n1, n2⟩, -⟩ := id F
  obtain ⟨v, hv, rfl⟩ := i32 v
  have r := a_isLength (h := h) hv
  have rm := fun g => m_isLength (h := g) hv
  by_cases c : 4 ≤ v ∧ v ≤ 30
  · rw [if_pos c] at r
    simp only [if_pos c] at rm
    by_cases c4 : z 184 = 4
    · refine Ans.no (E := "java/lang/IllegalStateException") (j := 2) (v := 0) I ?_ (wr22 _ (by decide)) (by decide) ?_
      · show f_F_wall h 180 (iI v) = _
        unfold f_F_wall
        rw [r, Option.bind_some, if_neg (by decide), f00, R.nw, lI4, tLe (by omega) (by omega) (by omega) (by omega), if_pos (by omega), f_F_wall_26, if_pos rfl]
      · show f_M_wall h 200 (iI v) = _
        unfold f_M_wall
        rw [rm, Option.bind_some, if_neg (by decide), ib_184, if_pos rfl, cl_184, fA1, RM.c184, lI4, tEq (by omega) (by omega) (by omega) (by omega), if_pos c4, f_M_wall_29, refused2, Option.bind_some]
        dsimp only
        rw [if_neg (by decide)]
    · obtain ⟨h1, g1, A1, e13, fin⟩ := act I MI (Int.le_refl B)
      obtain ⟨h2, k1, k2, k3, k4⟩ := a_openWall A1 (by omega) c
      obtain ⟨h3, RG, m1, m2, m3⟩ := fin _ (iI (z 184)) h2 k2 (by rw [k4, e13, zwl_n F (by omega) v (by decide) (by omega)]) k3 (K.wl (by omega) c)
      obtain ⟨h4, p1, p2, p3⟩ := m_addWall m2 F (by omega) v
      obtain ⟨q1, q2, q3⟩ := m3 h4 p2 (fun i n1 _ _ _ => p3 i n1)
      refine Or.inl ⟨iI (z 184), h2, h4, ?_, ?_, q1, q2, q3⟩
      · show f_F_wall h 180 (iI v) = _
        unfold f_F_wall
        rw [r, Option.bind_some, if_neg (by decide), f00, R.nw, lI4, tLe (by omega) (by omega) (by omega) (by omega), if_neg (by omega), f_F_wall_26, if_neg (by decide), f02, f00, g1, Option.bind_some, f0, k1, Option.bind_some]
      · show f_M_wall (hset h2 211 0 (iI (z 184))) 200 (iI v) = _
        unfold f_M_wall
        rw [rm, Option.bind_some, if_neg (by decide), ib_184, if_pos rfl, cl_184, fA1, RG.c184, lI4, tEq (by omega) (by omega) (by omega) (by omega), if_neg c4, f_M_wall_29, refused0, Option.bind_some]
        dsimp only
        rw [if_pos rfl, m1, Option.bind_some, fA1, p1, Option.bind_some]
  · rw [if_neg c] at r
    simp only [if_neg c] at rm
    refine Ans.no (E := "java/lang/IllegalArgumentException") (j := 1) (v := 0) I ?_ (wr12 _ _ _) (by decide) ?_
    · show f_F_wall h 180 (iI v) = _
      unfold f_F_wall
      rw [r, Option.bind_some, if_pos rfl]
    · show f_M_wall h 200 (iI v) = _
      unfold f_M_wall
      rw [rm, Option.bind_some, if_pos rfl, f_M_wall_29, refused1, Option.bind_some]
      dsimp only
      rw [if_neg (by decide)]
theorem q_outlet (I : INV B h) (x y v : Int32) : Ans B h ["java/lang/IndexOutOfBoundsException", "java/lang/IllegalArgumentException"] (fun h => f_F_outlet h 180 x y v) (fun h => f_M_outlet h 200 x y v) := by
  obtain ⟨z, MI⟩ := I.1
  obtain ⟨RA, RM, h13, K⟩ := id MI
  obtain ⟨S, R, RP, F⟩ := id RA
  obtain ⟨⟨w1, w2⟩, ⟨n1, n2⟩, -⟩ := id F
  obtain ⟨x, hx, rfl⟩ := i32 x
  obtain ⟨y, hy, rfl⟩ := i32 y
  obtain ⟨v, hv, rfl⟩ := i32 v
  have r := in32 h hv ⟨by decide, by decide⟩ ⟨by decide, by decide⟩ lI0 lI4
  have rm := fun g => in64 g hv ⟨by decide, by decide⟩ ⟨by decide, by decide⟩ l640 l644
  have rw_ := s_hasMetre R S.bs F hx hy
  have rwm := m_isMetre RM F hx hy
  by_cases cw : 0 ≤ x ∧ x < z 184 ∧ 0 ≤ y ∧ y < z (31 * x.toNat)
  · rw [if_pos cw] at rw_ rwm
    by_cases c : 0 ≤ v ∧ v ≤ 4
    · rw [if_pos c] at r
      simp only [if_pos c] at rm
      have hL := F.2.2.2.1 x.toNat (by omega)
      obtain ⟨h1, g1, A1, e13, fin⟩ := act I MI (Int.le_refl B)
      obtain ⟨h2, k1, k2, k3, k4⟩ := a_putPlugs A1 (w := x.toNat) (m := y.toNat) (by omega) (by omega) c
      rw [show ((x.toNat : Nat) : Int) = x by omega, show ((y.toNat : Nat) : Int) = y by omega] at k1
      obtain ⟨h3, RG, m1, m2, m3⟩ := fin _ (iI (z (31 * x.toNat + 1 + y.toNat))) h2 k2 (by rw [k4, e13, uI_n _ _ (by omega)]) k3 (K.u k2.2.2.2 ⟨by omega, by omega, by omega⟩)
      have rwg := m_isMetre RG F hx hy
      rw [if_pos cw] at rwg
      obtain ⟨h4, p1, p2, p3⟩ := m_put m2 (k := 31 * x + 1 + y) (by omega) (by omega) v
      rw [show (31 * x + 1 + y).toNat = 31 * x.toNat + 1 + y.toNat by omega] at p1 p2
      obtain ⟨q1, q2, q3⟩ := m3 h4 p2 (fun i n1 _ _ _ => p3 i n1)
      refine Or.inl ⟨_, h2, h4, ?_, ?_, q1, q2, q3⟩
      · show f_F_outlet h 180 (iI x) (iI y) (iI v) = _
        unfold f_F_outlet
        rw [f00, rw_, Option.bind_some, if_neg (by decide), r, Option.bind_some, if_neg (by decide), f02, g1, Option.bind_some, f0, k1, Option.bind_some]
      · show f_M_outlet (hset h2 211 0 _) 200 (iI x) (iI y) (iI v) = _
        unfold f_M_outlet
        rw [fA1, rwg, Option.bind_some, if_neg (by decide), rm, Option.bind_some, if_neg (by decide), f_M_outlet_34, refused0, Option.bind_some]
        dsimp only
        rw [if_pos rfl, m1, Option.bind_some, fA1, lI31, iI_mul, lI1, iI_add, iI_add, p1, Option.bind_some]
    · rw [if_neg c] at r
      simp only [if_neg c] at rm
      refine Ans.no (E := "java/lang/IllegalArgumentException") (j := 2) (v := 0) I ?_ (wr22 _ (by decide)) (by decide) ?_
      · show f_F_outlet h 180 (iI x) (iI y) (iI v) = _
        unfold f_F_outlet
        rw [f00, rw_, Option.bind_some, if_neg (by decide), r, Option.bind_some, if_pos rfl]
      · show f_M_outlet h 200 (iI x) (iI y) (iI v) = _
        unfold f_M_outlet
        rw [fA1, rwm, Option.bind_some, if_neg (by decide), rm, Option.bind_some, if_pos rfl, f_M_outlet_34, refused2, Option.bind_some]
        dsimp only
        rw [if_neg (by decide)]
  · rw [if_neg cw] at rw_ rwm
    refine Ans.no (E := "java/lang/IndexOutOfBoundsException") (j := 1) (v := 0) I ?_ (wr12 _ _ _) (by decide) ?_
    · show f_F_outlet h 180 (iI x) (iI y) (iI v) = _
      unfold f_F_outlet
      rw [f00, rw_, Option.bind_some, if_pos rfl]
    · show f_M_outlet h 200 (iI x) (iI y) (iI v) = _
      unfold f_M_outlet
      rw [fA1, rwm, Option.bind_some, if_pos rfl, f_M_outlet_34, refused1, Option.bind_some]
      dsimp only
      rw [if_neg (by decide)]
theorem q_dealer (I : INV B h) (x y v : Int32) : Ans B h ["java/lang/IllegalArgumentException", "java/lang/IllegalStateException"] (fun h => f_F_dealer h 180 x y v) (fun h => f_M_dealer h 200 x y v) := by
  obtain ⟨z, MI⟩ := I.1
  obtain ⟨RA, RM, h13, K⟩ := id MI
  obtain ⟨S, R, RP, F⟩ := id RA
  obtain ⟨⟨w1, w2⟩, ⟨n1, n2⟩, -⟩ := id F
  obtain ⟨x, hx, rfl⟩ := i32 x
  obtain ⟨y, hy, rfl⟩ := i32 y
  obtain ⟨v, hv, rfl⟩ := i32 v
  have r := a_isDealer (h := h) hx hy hv
  have rm := fun g => m_isKind (h := g) hx hy hv
  by_cases c : kindP x y v
  · rw [if_pos c] at r
    simp only [if_pos c] at rm
    by_cases c4 : z 185 = 10
    · refine Ans.no (E := "java/lang/IllegalStateException") (j := 2) (v := 0) I ?_ (wr22 _ (by decide)) (by decide) ?_
      · show f_F_dealer h 180 (iI x) (iI y) (iI v) = _
        unfold f_F_dealer
        rw [r, Option.bind_some, if_neg (by decide), f00, R.nd, lI10, tLe (by omega) (by omega) (by omega) (by omega), if_pos (by omega), f_F_dealer_29, if_pos rfl]
      · show f_M_dealer h 200 (iI x) (iI y) (iI v) = _
        unfold f_M_dealer
        rw [rm, Option.bind_some, if_neg (by decide), ib_185, if_pos rfl, cl_185, fA1, RM.c185, lI10, tEq (by omega) (by omega) (by omega) (by omega), if_pos c4, f_M_dealer_32, refused2, Option.bind_some]
        dsimp only
        rw [if_neg (by decide)]
    · obtain ⟨h1, g1, A1, e13, fin⟩ := act I MI (Int.le_refl B)
      obtain ⟨h2, k1, k2, k3, k4⟩ := a_admit A1 (by omega) (K.o0 (by omega)) c.1 c.2.1 c.2.2
      obtain ⟨h3, RG, m1, m2, m3⟩ := fin _ (iI (z 185)) h2 k2 (by rw [k4, e13, zdl_n z x y v (by decide) (by omega)]) k3 (K.dl (by omega) c.1 c.2.1 c.2.2)
      obtain ⟨h4, p1, p2, p3⟩ := m_addDealer m2 F (by omega) x y v
      obtain ⟨q1, q2, q3⟩ := m3 h4 p2 (fun i n1 _ _ _ => p3 i n1)
      refine Or.inl ⟨iI (z 185), h2, h4, ?_, ?_, q1, q2, q3⟩
      · show f_F_dealer h 180 (iI x) (iI y) (iI v) = _
        unfold f_F_dealer
        rw [r, Option.bind_some, if_neg (by decide), f00, R.nd, lI10, tLe (by omega) (by omega) (by omega) (by omega), if_neg (by omega), f_F_dealer_29, if_neg (by decide), f02, f00, g1, Option.bind_some, f0, k1, Option.bind_some]
      · show f_M_dealer (hset h2 211 0 (iI (z 185))) 200 (iI x) (iI y) (iI v) = _
        unfold f_M_dealer
        rw [rm, Option.bind_some, if_neg (by decide), ib_185, if_pos rfl, cl_185, fA1, RG.c185, lI10, tEq (by omega) (by omega) (by omega) (by omega), if_neg c4, f_M_dealer_32, refused0, Option.bind_some]
        dsimp only
        rw [if_pos rfl, m1, Option.bind_some, fA1, p1, Option.bind_some]
  · rw [if_neg c] at r
    simp only [if_neg c] at rm
    refine Ans.no (E := "java/lang/IllegalArgumentException") (j := 1) (v := 0) I ?_ (wr12 _ _ _) (by decide) ?_
    · show f_F_dealer h 180 (iI x) (iI y) (iI v) = _
      unfold f_F_dealer
      rw [r, Option.bind_some, if_pos rfl]
    · show f_M_dealer h 200 (iI x) (iI y) (iI v) = _
      unfold f_M_dealer
      rw [rm, Option.bind_some, if_pos rfl, f_M_dealer_32, refused1, Option.bind_some]
      dsimp only
      rw [if_neg (by decide)]
theorem q_set (I : INV B h) (x v : Int32) : Ans B h ["java/lang/IllegalArgumentException"] (fun h => f_F_set h 180 x v) (fun h => f_M_set h 200 x v) := by
  obtain ⟨z, MI⟩ := I.1
  obtain ⟨RA, RM, h13, K⟩ := id MI
  obtain ⟨S, R, RP, F⟩ := id RA
  obtain ⟨⟨w1, w2⟩, ⟨n1, n2⟩, -⟩ := id F
  obtain ⟨x, hx, rfl⟩ := i32 x
  obtain ⟨v, hv, rfl⟩ := i32 v
  have r := a_isSet (h := h) hx hv
  have rm := fun g => m_isSet (h := g) hx hv
  by_cases c : setP x v
  · rw [if_pos c] at r
    simp only [if_pos c] at rm
    obtain ⟨h1, g1, A1, e13, fin⟩ := act I MI (Int.le_refl B)
    obtain ⟨h2, k1, k2, k3, k4⟩ := a_setting A1 (j := x.toNat) (by omega) c.2
    rw [show ((x.toNat : Nat) : Int) = x by omega] at k1
    obtain ⟨h3, RG, m1, m2, m3⟩ := fin _ (iI (z (190 + x.toNat))) h2 k2 (by rw [k4, e13, uI_n _ _ (by omega)]) k3 (K.u k2.2.2.2 ⟨by omega, by omega, by omega⟩)
    obtain ⟨h4, p1, p2, p3⟩ := m_put m2 (k := 190 + x) (by omega) (by omega) v
    rw [show (190 + x).toNat = 190 + x.toNat by omega] at p1 p2
    obtain ⟨q1, q2, q3⟩ := m3 h4 p2 (fun i n1 _ _ _ => p3 i n1)
    refine Or.inl ⟨_, h2, h4, ?_, ?_, q1, q2, q3⟩
    · show f_F_set h 180 (iI x) (iI v) = _
      unfold f_F_set
      rw [r, Option.bind_some, if_neg (by decide), f02, f00, g1, Option.bind_some, f0, k1, Option.bind_some]
    · show f_M_set (hset h2 211 0 _) 200 (iI x) (iI v) = _
      unfold f_M_set
      rw [rm, Option.bind_some, if_neg (by decide), f_M_set_14, refused0, Option.bind_some]
      dsimp only
      rw [if_pos rfl, m1, Option.bind_some, fA1, lI190, iI_add, p1, Option.bind_some]
  · rw [if_neg c] at r
    simp only [if_neg c] at rm
    refine Ans.no (E := "java/lang/IllegalArgumentException") (j := 1) (v := 0) I ?_ (wr1 _ _) (by decide) ?_
    · show f_F_set h 180 (iI x) (iI v) = _
      unfold f_F_set
      rw [r, Option.bind_some, if_pos rfl]
    · show f_M_set h 200 (iI x) (iI v) = _
      unfold f_M_set
      rw [rm, Option.bind_some, if_pos rfl, f_M_set_14, refused1, Option.bind_some]
      dsimp only
      rw [if_neg (by decide)]
theorem q_days (I : INV B h) (v : Int32) : Ans (B + 42000) h ["java/lang/IllegalArgumentException"] (fun h => f_F_days h 180 v) (fun h => f_M_days h 200 v) := by
  obtain ⟨z, MI⟩ := I.1
  obtain ⟨RA, RM, h13, K⟩ := id MI
  obtain ⟨S, R, RP, F⟩ := id RA
  obtain ⟨⟨w1, w2⟩, ⟨n1, n2⟩, -⟩ := id F
  obtain ⟨v, hv, rfl⟩ := i32 v
  have r := in32 h hv ⟨by decide, by decide⟩ ⟨by decide, by decide⟩ lI1 lI60
  have rm := fun g => in64 g hv ⟨by decide, by decide⟩ ⟨by decide, by decide⟩ l641 l6460
  by_cases c : 1 ≤ v ∧ v ≤ 60
  · rw [if_pos c] at r
    simp only [if_pos c] at rm
    obtain ⟨n, hn, h0, rfl⟩ : ∃ n : Nat, n ≤ 60 ∧ n ≠ 0 ∧ v = n := ⟨v.toNat, by omega, by omega, by omega⟩
    obtain ⟨h1, g1, A1, e13, fin⟩ := act I MI (show B ≤ B + 42000 by omega)
    obtain ⟨h2, k1, k2, k3, k4⟩ := a_passDays A1 hn h0
    obtain ⟨h3, RG, m1, m2, m3⟩ := fin _ (iI (n * rtsZ z)) h2 k2 (by rw [k4, e13]; unfold zdy dysZ; rw [uI_n _ _ (by decide), uI_n _ _ (by decide), uI_n _ _ (by decide), dyA_n z _ _ (by decide)]) k3 (K.dy hn)
    obtain ⟨h4, p1, p2, p3⟩ := m_goDays (Or.inl rfl) F m2 hn
    obtain ⟨q1, q2, q3⟩ := m3 h4 p2 p3
    refine Or.inl ⟨_, h2, h4, ?_, ?_, q1, q2, q3⟩
    · show f_F_days h 180 (iI n) = _
      unfold f_F_days
      rw [r, Option.bind_some, if_neg (by decide), f02, f00, g1, Option.bind_some, f0, k1, Option.bind_some]
    · show f_M_days (hset h2 211 0 _) 200 (iI n) = _
      unfold f_M_days
      rw [rm, Option.bind_some, if_neg (by decide), f_M_days_18, refused0, Option.bind_some]
      dsimp only
      rw [if_pos rfl, m1, Option.bind_some, fA1, p1, Option.bind_some]
  · rw [if_neg c] at r
    simp only [if_neg c] at rm
    refine Ans.mono (B' := B) ?_ (by omega)
    refine Ans.no (E := "java/lang/IllegalArgumentException") (j := 1) (v := 0) I ?_ (wr1 _ _) (by decide) ?_
    · show f_F_days h 180 (iI v) = _
      unfold f_F_days
      rw [r, Option.bind_some, if_pos rfl]
    · show f_M_days h 200 (iI v) = _
      unfold f_M_days
      rw [rm, Option.bind_some, if_pos rfl, f_M_days_18, refused1, Option.bind_some]
      dsimp only
      rw [if_neg (by decide)]
end CALLA
