/-! the law's calls: place, leave, swap -/
section CALLB
variable {h g : HP} {a b p : Nat} {z : Nat → Int} {B : Int}
theorem rsnP_b (z : Nat → Int) (d : Nat) (w f : Int) : 0 ≤ rsnP z d w f ∧ rsnP z d w f ≤ 4 := by
  unfold rsnP
  split
  · split
    · split <;> omega
    · omega
  · omega
theorem rsnP_wf (F : WF z) {d : Nat} (hd : d < 10) (h2 : (d : Int) < z 185) {w f : Int} (hw : 0 ≤ w ∧ w < z 184) (hf : 0 ≤ f) (c : rsnP z d w f = 0) : WF (zst z d w f) := by
  refine wf_zst F hd h2 (Or.inr ⟨hw.1, hw.2, hf, ?_⟩)
  unfold rsnP at c
  split at c
  · split at c
    · rename_i c2
      split at c
      · rename_i c3
        exact ⟨c2, c3⟩
      · omega
    · omega
  · omega
theorem q_place (I : INV B h) (x y v : Int32) : Ans B h ["java/lang/IndexOutOfBoundsException"] (fun h => f_F_place h 180 x y v) (fun h => f_M_place h 200 x y v) := by
  obtain ⟨z, MI⟩ := I.1
  obtain ⟨RA, RM, h13, K⟩ := id MI
  obtain ⟨S, R, RP, F⟩ := id RA
  obtain ⟨⟨w1, w2⟩, ⟨n1, n2⟩, -⟩ := id F
  obtain ⟨x, hx, rfl⟩ := i32 x
  obtain ⟨y, hy, rfl⟩ := i32 y
  obtain ⟨v, hv, rfl⟩ := i32 v
  have rd := s_hasDealer R F hx
  have rdm := m_isDealer RM F hx
  have rw_ := s_hasMetre R S.bs F hy hv
  have rwm := m_isMetre RM F hy hv
  by_cases cd : 0 ≤ x ∧ x < z 185
  · rw [if_pos cd] at rd rdm
    by_cases cw : 0 ≤ y ∧ y < z 184 ∧ 0 ≤ v ∧ v < z (31 * y.toNat)
    · rw [if_pos cw] at rw_ rwm
      have hL := F.2.2.2.1 y.toNat (by omega)
      obtain ⟨d, h2, rfl⟩ : ∃ d : Nat, (d : Int) < z 185 ∧ x = d := ⟨x.toNat, by omega, by omega⟩
      have hd : d < 10 := by omega
      obtain ⟨h1, g1, A1, e13, fin⟩ := act I MI (Int.le_refl B)
      obtain ⟨h2a, k1, k2, k3, k4, -⟩ := a_letStand A1 hd h2 (w := y) (f := v) ⟨cw.1, cw.2.1⟩ cw.2.2
      have hb := rsnP_b z d y v
      have CF : ∀ h2 : HP, f_A_countRefusal h2a 182 (iI (rsnP z d y v)) = some (iI (rsnP z d y v), h2) → f_F_place h 180 (iI d) (iI y) (iI v) = some (.inl (some (.int (iI (rsnP z d y v)))), h2) := fun h2 e => by
        unfold f_F_place
        rw [f00, rd, Option.bind_some, if_neg (by decide), rw_, Option.bind_some, if_neg (by decide), f_F_place_34, if_neg (by decide), f02, f00, g1, Option.bind_some, f0, k1, Option.bind_some]
        dsimp only
        rw [e, Option.bind_some]
      have CM : ∀ (h2 h3 h4 : HP), RepM (hset h2 211 0 (iI (rsnP z d y v))) 201 z → f_M_remember (hset (hset h2 211 0 (iI (rsnP z d y v))) 200 0 0) 200 = some h3 → f_M_goPlace h3 201 (iI d) (iI y) (iI v) = some (iI (rsnP z d y v), h4) → f_M_place (hset h2 211 0 (iI (rsnP z d y v))) 200 (iI d) (iI y) (iI v) = some (iI (rsnP z d y v), h4) := fun h2 h3 h4 RG m1 p1 => by
        have rdg := m_isDealer RG F hx
        have rwg := m_isMetre RG F hy hv
        rw [if_pos cd] at rdg
        rw [if_pos cw] at rwg
        unfold f_M_place
        rw [fA1, rdg, Option.bind_some, if_neg (by decide), rwg, Option.bind_some, if_neg (by decide), f_M_place_29, refused0, Option.bind_some]
        dsimp only
        rw [if_pos rfl, m1, Option.bind_some, fA1, p1, Option.bind_some]
      by_cases c0 : rsnP z d y v = 0
      · rw [if_pos c0] at k2
        have Fz := rsnP_wf F hd h2 ⟨cw.1, cw.2.1⟩ cw.2.2.1 c0
        have e0 := a_count0 (h := h2a)
        rw [← c0] at e0
        obtain ⟨h3, RG, m1, m2, m3⟩ := fin _ (iI (rsnP z d y v)) h2a k2 (by rw [k4, e13, zst_n _ _ _ _ (by omega) (by omega)]) k3 (K.st hd Fz)
        obtain ⟨h4, p1, p2, p3⟩ := m_goPlace m2 F hd h2 (w := y) (f := v) ⟨cw.1, by omega⟩ ⟨cw.2.2.1, by omega⟩
        rw [if_pos c0] at p2
        obtain ⟨q1, q2, q3⟩ := m3 h4 p2 (fun i n1 _ _ _ => p3 i n1)
        exact Or.inl ⟨_, h2a, h4, CF h2a e0, CM h2a h3 h4 RG m1 p1, q1, q2, q3⟩
      · rw [if_neg c0] at k2
        obtain ⟨h2b, b1, b2, b3, b4⟩ := a_count1 k2 (by rw [k4]; exact e13) hb c0
        obtain ⟨h3, RG, m1, m2, m3⟩ := fin _ (iI (rsnP z d y v)) h2b b2 b3 (fun i hi => by rw [b4 i hi, k3 i hi]) (K.rf _)
        obtain ⟨h4, p1, p2, p3⟩ := m_goPlace m2 F hd h2 (w := y) (f := v) ⟨cw.1, by omega⟩ ⟨cw.2.2.1, by omega⟩
        rw [if_neg c0] at p2
        obtain ⟨q1, q2, q3⟩ := m3 h4 p2 (fun i n1 _ _ _ => p3 i n1)
        exact Or.inl ⟨_, h2b, h4, CF h2b b1, CM h2b h3 h4 RG m1 p1, q1, q2, q3⟩
    · rw [if_neg cw] at rw_ rwm
      refine Ans.no (E := "java/lang/IndexOutOfBoundsException") (j := 1) (v := 0) I ?_ (wr1 _ _) (by decide) ?_
      · show f_F_place h 180 (iI x) (iI y) (iI v) = _
        unfold f_F_place
        rw [f00, rd, Option.bind_some, if_neg (by decide), rw_, Option.bind_some, if_pos rfl, f_F_place_33, f_F_place_34, if_pos rfl]
      · show f_M_place h 200 (iI x) (iI y) (iI v) = _
        unfold f_M_place
        rw [fA1, rdm, Option.bind_some, if_neg (by decide), rwm, Option.bind_some, if_pos rfl, f_M_place_28, f_M_place_29, refused1, Option.bind_some]
        dsimp only
        rw [if_neg (by decide)]
  · rw [if_neg cd] at rd rdm
    refine Ans.no (E := "java/lang/IndexOutOfBoundsException") (j := 1) (v := 0) I ?_ (wr1 _ _) (by decide) ?_
    · show f_F_place h 180 (iI x) (iI y) (iI v) = _
      unfold f_F_place
      rw [f00, rd, Option.bind_some, if_pos rfl, f_F_place_33, f_F_place_34, if_pos rfl]
    · show f_M_place h 200 (iI x) (iI y) (iI v) = _
      unfold f_M_place
      rw [fA1, rdm, Option.bind_some, if_pos rfl, f_M_place_28, f_M_place_29, refused1, Option.bind_some]
      dsimp only
      rw [if_neg (by decide)]
theorem q_leave (I : INV B h) (x : Int32) : Ans B h ["java/lang/IndexOutOfBoundsException", "java/lang/IllegalStateException"] (fun h => f_F_leave h 180 x) (fun h => f_M_leave h 200 x) := by
  obtain ⟨z, MI⟩ := I.1
  obtain ⟨RA, RM, h13, K⟩ := id MI
  obtain ⟨S, R, RP, F⟩ := id RA
  obtain ⟨⟨w1, w2⟩, ⟨n1, n2⟩, -⟩ := id F
  obtain ⟨x, hx, rfl⟩ := i32 x
  have rd := s_hasDealer R F hx
  have rdm := m_isDealer RM F hx
  by_cases cd : 0 ≤ x ∧ x < z 185
  · rw [if_pos cd] at rd rdm
    obtain ⟨d, h2, rfl⟩ : ∃ d : Nat, (d : Int) < z 185 ∧ x = d := ⟨x.toNat, by omega, by omega⟩
    have hd : d < 10 := by omega
    have rs := st_stands R S.bs F hd h2
    have rsm := m_stands RM F hd h2
    by_cases c : z (127 + 6 * d) = -1
    · rw [if_pos c] at rs rsm
      refine Ans.no (E := "java/lang/IllegalStateException") (j := 2) (v := 0) I ?_ (wr22 _ (by decide)) (by decide) ?_
      · show f_F_leave h 180 (iI d) = _
        unfold f_F_leave
        rw [f00, rd, Option.bind_some, if_neg (by decide), rs, Option.bind_some, if_pos rfl]
      · show f_M_leave h 200 (iI d) = _
        unfold f_M_leave
        rw [fA1, rdm, Option.bind_some, if_neg (by decide), rsm, Option.bind_some, if_pos rfl, f_M_leave_32, refused2, Option.bind_some]
        dsimp only
        rw [if_neg (by decide)]
    · rw [if_neg c] at rs rsm
      obtain ⟨h1, g1, A1, e13, fin⟩ := act I MI (Int.le_refl B)
      obtain ⟨h2a, k1, k2, k3, k4, -⟩ := a_sendAway A1 hd h2
      rw [if_neg c] at k1
      obtain ⟨h3, RG, m1, m2, m3⟩ := fin _ (iI (z (129 + 6 * d))) h2a k2 (by rw [k4, e13, zst_n _ _ _ _ (by omega) (by omega)]) k3 (K.st hd k2.2.2.2)
      obtain ⟨h4, p1, p2, p3⟩ := m_goLeave m2 hd
      obtain ⟨q1, q2, q3⟩ := m3 h4 p2 (fun i n1 _ _ _ => p3 i n1)
      have rdg := m_isDealer RG F hx
      have rsg := m_stands RG F hd h2
      rw [if_pos cd] at rdg
      rw [if_neg c] at rsg
      refine Or.inl ⟨_, h2a, h4, ?_, ?_, q1, q2, q3⟩
      · show f_F_leave h 180 (iI d) = _
        unfold f_F_leave
        rw [f00, rd, Option.bind_some, if_neg (by decide), rs, Option.bind_some, if_neg (by decide), f02, g1, Option.bind_some, f0, k1, Option.bind_some]
      · show f_M_leave (hset h2a 211 0 _) 200 (iI d) = _
        unfold f_M_leave
        rw [fA1, rdg, Option.bind_some, if_neg (by decide), rsg, Option.bind_some, if_neg (by decide), f_M_leave_32, refused0, Option.bind_some]
        dsimp only
        rw [if_pos rfl, m1, Option.bind_some, fA1, p1, Option.bind_some]
  · rw [if_neg cd] at rd rdm
    refine Ans.no (E := "java/lang/IndexOutOfBoundsException") (j := 1) (v := 0) I ?_ (wr12 _ _ _) (by decide) ?_
    · show f_F_leave h 180 (iI x) = _
      unfold f_F_leave
      rw [f00, rd, Option.bind_some, if_pos rfl]
    · show f_M_leave h 200 (iI x) = _
      unfold f_M_leave
      rw [fA1, rdm, Option.bind_some, if_pos rfl, f_M_leave_32, refused1, Option.bind_some]
      dsimp only
      rw [if_neg (by decide)]
theorem q_swap (I : INV B h) (x y : Int32) : Ans B h ["java/lang/IndexOutOfBoundsException", "java/lang/IllegalArgumentException"] (fun h => f_F_swap h 180 x y) (fun h => f_M_swap h 200 x y) := by
  obtain ⟨z, MI⟩ := I.1
  obtain ⟨RA, RM, h13, K⟩ := id MI
  obtain ⟨S, R, RP, F⟩ := id RA
  obtain ⟨⟨w1, w2⟩, ⟨n1, n2⟩, -⟩ := id F
  obtain ⟨x, hx, rfl⟩ := i32 x
  obtain ⟨y, hy, rfl⟩ := i32 y
  have rd := s_hasDealer R F hx
  have re := s_hasDealer R F hy
  have rdm := m_areDealers RM F hx hy
  by_cases cd : 0 ≤ x ∧ x < z 185
  · rw [if_pos cd] at rd
    by_cases ce : 0 ≤ y ∧ y < z 185
    · rw [if_pos ce] at re
      rw [if_pos ⟨cd, ce⟩] at rdm
      by_cases cxy : x = y
      · refine Ans.no (E := "java/lang/IllegalArgumentException") (j := 2) (v := 0) I ?_ (wr22 _ (by decide)) (by decide) ?_
        · show f_F_swap h 180 (iI x) (iI y) = _
          unfold f_F_swap
          rw [f00, rd, Option.bind_some, if_neg (by decide), re, Option.bind_some, if_neg (by decide), f_F_swap_33, if_neg (by decide), if_pos (by rw [cxy]), f_F_swap_46, if_pos rfl]
          skip
        · show f_M_swap h 200 (iI x) (iI y) = _
          unfold f_M_swap
          rw [fA1, rdm, Option.bind_some, if_neg (by decide), if_pos (by rw [cxy]), f_M_swap_27, refused2, Option.bind_some]
          dsimp only
          rw [if_neg (by decide)]
      · obtain ⟨d, h2, rfl⟩ : ∃ d : Nat, (d : Int) < z 185 ∧ x = d := ⟨x.toNat, by omega, by omega⟩
        obtain ⟨e, h3', rfl⟩ : ∃ d : Nat, (d : Int) < z 185 ∧ y = d := ⟨y.toNat, by omega, by omega⟩
        have hd : d < 10 := by omega
        have he : e < 10 := by omega
        have hde : d ≠ e := by omega
        have cxy' : ¬ iI (d : Int) = iI (e : Int) := fun q => cxy ((iI_eq (by omega) (by omega) (by omega) (by omega)).mp q)
        obtain ⟨h1, g1, A1, e13, fin⟩ := act I MI (Int.le_refl B)
        obtain ⟨h2a, k1, k2, k3, k4⟩ := a_exchange A1 hd h2 he h3' hde
        have hb := rsnS_b z d e
        have CF : ∀ h2 : HP, f_A_countRefusal h2a 182 (iI (rsnS z d e)) = some (iI (rsnS z d e), h2) → f_F_swap h 180 (iI d) (iI e) = some (.inl (some (.int (iI (rsnS z d e)))), h2) := fun h2 q => by
          unfold f_F_swap
          rw [f00, rd, Option.bind_some, if_neg (by decide), re, Option.bind_some, if_neg (by decide), f_F_swap_33, if_neg (by decide), if_neg cxy', f_F_swap_46, if_neg (by decide), f02, f00, g1, Option.bind_some, f0, k1, Option.bind_some]
          dsimp only
          rw [q, Option.bind_some]
        have CM : ∀ (h2 h3 h4 : HP), RepM (hset h2 211 0 (iI (rsnS z d e))) 201 z → f_M_remember (hset (hset h2 211 0 (iI (rsnS z d e))) 200 0 0) 200 = some h3 → f_M_goSwap h3 201 (iI d) (iI e) = some (iI (rsnS z d e), h4) → f_M_swap (hset h2 211 0 (iI (rsnS z d e))) 200 (iI d) (iI e) = some (iI (rsnS z d e), h4) := fun h2 h3 h4 RG m1 p1 => by
          have rdg := m_areDealers RG F hx hy
          rw [if_pos ⟨cd, ce⟩] at rdg
          unfold f_M_swap
          rw [fA1, rdg, Option.bind_some, if_neg (by decide), if_neg cxy', f_M_swap_27, refused0, Option.bind_some]
          dsimp only
          rw [if_pos rfl, m1, Option.bind_some, fA1, p1, Option.bind_some]
        by_cases c0 : rsnS z d e = 0
        · rw [if_pos c0] at k2
          have e0 := a_count0 (h := h2a)
          rw [← c0] at e0
          obtain ⟨h3, RG, m1, m2, m3⟩ := fin _ (iI (rsnS z d e)) h2a k2 (by rw [k4, e13]; unfold zsw zsx; rw [uI_n _ _ (by decide), zst_n _ _ _ _ (by omega) (by omega), zst_n _ _ _ _ (by omega) (by omega)]) k3 (K.sw hd he k2.2.2.2)
          obtain ⟨h4, p1, p2, p3⟩ := m_goSwap m2 F hd h2 he h3' hde
          rw [if_pos c0] at p2
          obtain ⟨q1, q2, q3⟩ := m3 h4 p2 (fun i n1 _ _ _ => p3 i n1)
          exact Or.inl ⟨_, h2a, h4, CF h2a e0, CM h2a h3 h4 RG m1 p1, q1, q2, q3⟩
        · rw [if_neg c0] at k2
          obtain ⟨h2b, b1, b2, b3, b4⟩ := a_count1 k2 (by rw [k4]; exact e13) hb c0
          obtain ⟨h3, RG, m1, m2, m3⟩ := fin _ (iI (rsnS z d e)) h2b b2 b3 (fun i hi => by rw [b4 i hi, k3 i hi]) (K.rf _)
          obtain ⟨h4, p1, p2, p3⟩ := m_goSwap m2 F hd h2 he h3' hde
          rw [if_neg c0] at p2
          obtain ⟨q1, q2, q3⟩ := m3 h4 p2 (fun i n1 _ _ _ => p3 i n1)
          exact Or.inl ⟨_, h2b, h4, CF h2b b1, CM h2b h3 h4 RG m1 p1, q1, q2, q3⟩
    · rw [if_neg ce] at re
      rw [if_neg (fun q => ce q.2)] at rdm
      refine Ans.no (E := "java/lang/IndexOutOfBoundsException") (j := 1) (v := 0) I ?_ (wr12 _ _ _) (by decide) ?_
      · show f_F_swap h 180 (iI x) (iI y) = _
        unfold f_F_swap
        rw [f00, rd, Option.bind_some, if_neg (by decide), re, Option.bind_some, if_pos rfl, f_F_swap_32, f_F_swap_33, if_pos rfl]
        skip
      · show f_M_swap h 200 (iI x) (iI y) = _
        unfold f_M_swap
        rw [fA1, rdm, Option.bind_some, if_pos rfl, f_M_swap_27, refused1, Option.bind_some]
        dsimp only
        rw [if_neg (by decide)]
  · rw [if_neg cd] at rd
    rw [if_neg (fun q => cd q.1)] at rdm
    refine Ans.no (E := "java/lang/IndexOutOfBoundsException") (j := 1) (v := 0) I ?_ (wr12 _ _ _) (by decide) ?_
    · show f_F_swap h 180 (iI x) (iI y) = _
      unfold f_F_swap
      rw [f00, rd, Option.bind_some, if_pos rfl, f_F_swap_32, f_F_swap_33, if_pos rfl]
      skip
    · show f_M_swap h 200 (iI x) (iI y) = _
      unfold f_M_swap
      rw [fA1, rdm, Option.bind_some, if_pos rfl, f_M_swap_27, refused1, Option.bind_some]
      dsimp only
      rw [if_neg (by decide)]
end CALLB
