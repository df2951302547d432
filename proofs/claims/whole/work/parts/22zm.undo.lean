/-! the law's calls: undo, save, restore, the text's buffer -/
section CALLC
variable {h g : HP} {a b p : Nat} {z : Nat → Int} {B : Int}
theorem f03 : fld 180 3 = 194 := rfl
theorem f04 : fld 180 4 = 197 := rfl
theorem fA4 : fld 200 4 = 204 := rfl
theorem fA6 : fld 200 6 = 205 := rfl
theorem fA7 : fld 200 7 = 206 := rfl
theorem fA11 : fld 200 11 = 210 := rfl
theorem fL0 (k : Nat) : fld (fld 194 0) k = 160 + 10 * k := rfl
theorem fL1 : fld 194 1 = 196 := rfl
theorem knd6 {i : Nat} (h : BS i) : knd i = 6 := by
  unfold knd
  rw [if_pos h.1, if_pos h.2]
theorem q_undo (I : INV B h) : Ans B h ["java/lang/IllegalStateException"] (fun h => f_F_undo h 180) (fun h => f_M_undo h 200) := by
  obtain ⟨-, ⟨ys, c, x, PI⟩, ⟨ks, SI⟩, ⟨t, n, TI⟩⟩ := id I
  obtain ⟨z, MI⟩ := I.1
  obtain ⟨RA, RM, h13, K⟩ := id MI
  obtain ⟨S, R, RP, F⟩ := id RA
  obtain ⟨⟨w1, w2⟩, ⟨n1, n2⟩, -⟩ := id F
  obtain ⟨p1, p2, p3, p4, p5, p6⟩ := id PI
  by_cases c0 : c = 0
  · refine Ans.no (E := "java/lang/IllegalStateException") (j := 1) (v := 0) I ?_ (wr1 _ _) (by decide) ?_
    · show f_F_undo h 180 = _
      unfold f_F_undo f_P_count
      rw [f02, p4, Option.bind_some, c0]
      rw [if_pos (by decide), f_F_undo_15, if_pos rfl]
    · show f_M_undo h 200 = _
      unfold f_M_undo
      rw [p5, c0, if_pos (by decide), f_M_undo_13, refused1, Option.bind_some]
      dsimp only
      rw [if_neg (by decide)]
  · obtain ⟨k, hk⟩ : ∃ k, k = (x + 13) % 14 := ⟨_, rfl⟩
    have hk14 : k < 14 := by omega
    obtain ⟨K1, j2, j3, j4⟩ := p6 (c - 1) (by omega)
    have ek : (x + 14 - c + (c - 1)) % 14 = k := by omega
    rw [ek] at j3 j4
    have ekk : (iI (k : Int)).toNatClampNeg = k := by rw [iI_cl (by omega) (by omega)]; omega
    have fr7 : ∀ i, i ≠ 192 → (hset (hset h 192 1 (iI k)) 192 2 (iI ((c - 1 : Nat) : Int))) i = h i := fun i hi => by rw [hset_n _ _ _ hi, hset_n _ _ _ hi]
    obtain ⟨h8, g1, g2, g3, g4⟩ := a_become (b' := 20 + 10 * k) S (bsp hk14) (by omega) (j3.fr (h' := hset (hset h 192 1 (iI k)) 192 2 (iI ((c - 1 : Nat) : Int))) (fun i i1 i2 => fr7 i (by omega))) K1.1
    have e8 : ∀ i, ¬ own 0 184 i → i ≠ 192 → h8 i = h i := fun i n1 n2 => by rw [g4 i n1, fr7 i n2]
    have no : ∀ i, ¬ i < 10 → ¬ (185 ≤ i ∧ i ≤ 187) → ¬ own 0 184 i := fun i n1 n2 q => by unfold own at q; omega
    have e192 : h8 192 = (hset (hset h 192 1 (iI k)) 192 2 (iI ((c - 1 : Nat) : Int))) 192 := g4 192 (no _ (by decide) (by decide))
    have emax : f_J_max (hset h 192 1 (iI k)) (iI c - 1) 0 = some (iI ((c - 1 : Nat) : Int)) := by
      unfold f_J_max
      rw [lI1, iI_sub, lI0, tLt (by omega) (by omega) (by omega) (by omega), if_neg (by omega), show (c : Int) - 1 = ((c - 1 : Nat) : Int) by omega]
    have e2 : hset h 192 1 (iI k) 192 2 = iI c := by rw [hset_s, upd_n _ _ (by decide)]; exact p4
    have e5 : (hset (hset (hset h8 211 0 (iI ((c - 1 : Nat) : Int))) 200 0 0) 200 5 (iI ((c - 1 : Nat) : Int))) 200 5 = iI ((c - 1 : Nat) : Int) := by rw [hset_s, upd_s]
    obtain ⟨h9, r1, r2, r3, r4⟩ := m_und33 (c := c - 1) (by omega) 196 0 4096 _ (by omega) (by omega) e5
    have s9 : ∀ k, k ≠ 0 → k ≠ 5 → h9 200 k = h 200 k := fun k n0 n5 => by
      rw [r2 200 (by decide), hset_s, upd_n _ _ n5, hset_s, upd_n _ _ n0, hset_n _ _ _ (by decide), e8 200 (no _ (by decide) (by decide)) (by decide)]
    have f9 : ∀ i, i ≠ 201 → i ≠ 200 → i ≠ 211 → h9 i = h8 i := fun i n1 n2 n3 => by rw [r2 i n1, hset_n _ _ _ n2, hset_n _ _ _ n2, hset_n _ _ _ n3]
    have fh : ∀ i, i ≠ 201 → i ≠ 200 → i ≠ 211 → i ≠ 192 → ¬ i < 10 → ¬ (185 ≤ i ∧ i ≤ 187) → h9 i = h i := fun i n1 n2 n3 n4 n5 n6 => by rw [f9 i n1 n2 n3, e8 i (no i n5 n6) n4]
    refine Or.inl ⟨iI ((c - 1 : Nat) : Int), h8, h9, ?_, ?_, ?_, ?_, ⟨ys (c - 1), ?_, ?_, ?_, K1⟩, ⟨ys, c - 1, k, PastI.mk ⟨by omega, by omega, ?_, ?_, fun j hj => ?_⟩ ⟨?_, fun j hj m hm => ?_⟩ (fun j hj => (p6 j (by omega)).1)⟩, ⟨ks, SI.fr (fun i hi => fh i (by omega) (by omega) (by omega) (by omega) (by omega) (by omega))⟩, ⟨t, n, TI.fr ?_ (s9 12 (by decide) (by decide)) (fh 198 (by omega) (by omega) (by omega) (by omega) (by omega) (by omega)) (fh 210 (by omega) (by omega) (by omega) (by omega) (by omega) (by omega))⟩⟩
    · show f_F_undo h 180 = _
      unfold f_F_undo f_P_count
      rw [f02, p4, Option.bind_some, lI0, tLe (by omega) (by omega) (by omega) (by omega), if_neg (by omega), f_F_undo_15, if_neg (by decide)]
      unfold f_P_takeLast
      rw [f02, p3, flm14m p2, ← hk, Option.bind_some, Option.bind_some, e2, emax, Option.bind_some, Option.bind_some]
      have e71 : (hset (hset h 192 1 (iI k)) 192 2 (iI ((c - 1 : Nat) : Int))) 192 1 = iI k := by rw [hset_s, upd_n _ _ (by decide), hset_s, upd_s]
      rw [e71, iI_ib (by omega) (by omega) (by omega), if_pos rfl, ekk, fldp, Option.bind_some]
      dsimp only
      rw [knd6 (bsp hk14), if_pos rfl, f0, g1, Option.bind_some, f_P_count, e192, hset_s, upd_s, Option.bind_some]
    · show f_M_undo (hset h8 211 0 _) 200 = _
      have e : (hset h8 211 0 (iI ((c - 1 : Nat) : Int))) 200 5 = iI c := by rw [hset_n _ _ _ (by decide), e8 200 (no _ (by decide) (by decide)) (by decide)]; exact p5
      unfold f_M_undo
      rw [e, lI0, tEq (by omega) (by omega) (by omega) (by omega), if_neg (by omega), f_M_undo_13, ← lI0, refused0, Option.bind_some]
      dsimp only
      have e' : (hset (hset h8 211 0 (iI ((c - 1 : Nat) : Int))) 200 0 0) 200 5 = iI c := by rw [hset_s, upd_n _ _ (by decide)]; exact e
      rw [if_pos rfl, e', lI1, iI_sub, show (c : Int) - 1 = ((c - 1 : Nat) : Int) by omega, Option.bind_some]
      rw [lI0] at r1 ⊢
      exact r1
    · rw [r2 200 (by decide), hset_s, upd_n _ _ (by decide), hset_s, upd_s]
    · rw [r2 211 (by decide), hset_n _ _ _ (by decide), hset_n _ _ _ (by decide), hset_s, upd_s]
    · exact g2.fr (fun i hi => by unfold own at hi; exact f9 i (by omega) (by omega) (by omega))
    · intro m hm
      have e := r4 m (by omega) hm
      rw [Nat.zero_add] at e
      rw [e, hset_n _ _ _ (by decide), hset_n _ _ _ (by decide), hset_n _ _ _ (by decide), e8 204 (no _ (by decide) (by decide)) (by decide)]
      exact j2 m hm
    · rw [f9 0 (by decide) (by decide) (by decide), g3, fr7 _ (by omega)]
      exact j4
    · rw [f9 192 (by decide) (by decide) (by decide), e192, hset_s, upd_n _ _ (by decide), hset_s, upd_s]
    · rw [f9 192 (by decide) (by decide) (by decide), e192, hset_s, upd_s]
    · have q := p6 j (by omega)
      rw [show (k + 14 - (c - 1) + j) % 14 = (x + 14 - c + j) % 14 by omega]
      refine ⟨q.2.2.1.fr (fun i i1 i2 => fh i (by omega) (by omega) (by omega) (by omega) (by omega) (by omega)), ?_⟩
      rw [fh _ (by omega) (by omega) (by omega) (by omega) (by omega) (by omega)]
      exact q.2.2.2
    · rw [r2 200 (by decide)]; exact e5
    · rw [fh 204 (by decide) (by decide) (by decide) (by decide) (by decide) (by decide)]
      exact (p6 j (by omega)).2.1 m hm
    · rw [fh 197 (by decide) (by decide) (by decide) (by decide) (by decide) (by decide)]
end CALLC
