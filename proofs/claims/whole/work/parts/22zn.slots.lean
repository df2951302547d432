/-! the law's calls: save, restore, the text's buffer -/
section CALLD
variable {h g : HP} {a b p : Nat} {z : Nat → Int} {B : Int}
theorem bss {s : Nat} (hs : s < 2) : BS (160 + 10 * s) := ⟨by omega, by omega⟩
theorem no_own : ∀ i, ¬ i < 10 → ¬ (185 ≤ i ∧ i ≤ 187) → ¬ own 0 184 i := fun i n1 n2 q => by unfold own at q; omega
theorem q_save (I : INV B h) (x : Int32) : Ans B h ["java/lang/IndexOutOfBoundsException"] (fun h => f_F_save h 180 x) (fun h => f_M_save h 200 x) := by
  obtain ⟨-, ⟨ys, c, y, PI⟩, ⟨ks, SI⟩, ⟨t, n, TI⟩⟩ := id I
  obtain ⟨z, MI⟩ := I.1
  obtain ⟨RA, RM, h13, K⟩ := id MI
  obtain ⟨S, R, RP, F⟩ := id RA
  obtain ⟨⟨w1, w2⟩, ⟨n1, n2⟩, -⟩ := id F
  obtain ⟨x, hx, rfl⟩ := i32 x
  have r := in32 h hx ⟨by decide, by decide⟩ ⟨by decide, by decide⟩ lI0 lI1
  have rm := fun g => in64 g hx ⟨by decide, by decide⟩ ⟨by decide, by decide⟩ l640 l641
  by_cases c : 0 ≤ x ∧ x ≤ 1
  · rw [if_pos c] at r
    simp only [if_pos c] at rm
    obtain ⟨s, hs, rfl⟩ : ∃ s : Nat, s < 2 ∧ x = s := ⟨x.toNat, by omega, by omega⟩
    have cs : (iI (s : Int)).toNatClampNeg = s := by rw [iI_cl (by omega) (by omega)]; omega
    obtain ⟨h1, g1, g2, g3, g4⟩ := s_copy (b := 0) (b' := 160 + 10 * s) ⟨by decide, by decide⟩ (bss hs) (by omega) R
    have e186 : (hset h1 196 s 1) 0 11 = iI (z 186) := by rw [hset_n _ _ _ (by decide), g4 0 (by omega)]; exact R.1.2.2.1
    obtain ⟨h9, r1, r2, r3, r4⟩ := m_sav26 hs 196 0 4096 (hset (hset (hset h1 196 s 1) 211 0 (iI (z 186))) 200 0 0) (by omega) (by omega) trivial
    have f8 : ∀ i, i ≠ 196 → i ≠ 200 → i ≠ 211 → (hset (hset (hset h1 196 s 1) 211 0 (iI (z 186))) 200 0 0) i = h1 i := fun i n1 n2 n3 => by rw [hset_n _ _ _ n2, hset_n _ _ _ n3, hset_n _ _ _ n1]
    have f9 : ∀ i, i ≠ 196 → i ≠ 200 → i ≠ 211 → i ≠ 205 → i ≠ 206 → (hset h9 206 s 1) i = h1 i := fun i n1 n2 n3 n4 n5 => by rw [hset_n _ _ _ n5, r2 i n4, f8 i n1 n2 n3]
    have fh : ∀ i, i ≠ 196 → i ≠ 200 → i ≠ 211 → i ≠ 205 → i ≠ 206 → ¬ (160 + 10 * s ≤ i ∧ i < 160 + 10 * s + 10) → (hset h9 206 s 1) i = h i := fun i n1 n2 n3 n4 n5 n6 => by rw [f9 i n1 n2 n3 n4 n5, g4 i n6]
    have s9 : ∀ k, k ≠ 0 → (hset h9 206 s 1) 200 k = h 200 k := fun k n0 => by
      rw [hset_n _ _ _ (by decide), r2 200 (by decide), hset_s, upd_n _ _ n0, hset_n _ _ _ (by decide), hset_n _ _ _ (by decide), g4 200 (by omega)]
    have e201 : h9 201 = h 201 := by rw [r2 201 (by decide), f8 201 (by decide) (by decide) (by decide), g4 201 (by omega)]
    have o : ∀ i, ¬ (160 ≤ i ∧ i < 180) → ¬ (160 + 10 * s ≤ i ∧ i < 160 + 10 * s + 10) := fun i hi => by omega
    refine Or.inl ⟨iI (z 186), hset h1 196 s 1, hset h9 206 s 1, ?_, ?_, ?_, ?_, ⟨z, MI.fr (fun i hi => fh i (by omega) (by omega) (by omega) (by omega) (by omega) (o i (by omega)))⟩, ⟨ys, _, y, PI.fr (fun i hi => fh i (by omega) (by omega) (by omega) (by omega) (by omega) (o i (by omega))) (s9 5 (by decide))⟩, ⟨fun k => if k = s then z else ks k, fun k hk => ?_⟩, ⟨t, n, TI.fr ?_ (s9 12 (by decide)) (fh 198 (by decide) (by decide) (by decide) (by decide) (by decide) (o _ (by decide))) (fh 210 (by decide) (by decide) (by decide) (by decide) (by decide) (o _ (by decide)))⟩⟩
    · show f_F_save h 180 (iI s) = _
      unfold f_F_save f_L_keep
      rw [r, Option.bind_some, if_neg (by decide), Option.bind_some, if_neg (by decide), iI_ib (by omega) (by omega) (by omega), if_pos rfl, cs, f03, f00, fL0, g1, Option.bind_some, if_pos rfl, fL1, Option.bind_some, Option.bind_some, e186]
    · show f_M_save (hset (hset h1 196 s 1) 211 0 (iI (z 186))) 200 (iI s) = _
      unfold f_M_save
      rw [rm, Option.bind_some, if_neg (by decide), f_M_save_16, refused0, Option.bind_some]
      dsimp only
      rw [if_pos rfl]
      rw [lI0] at r1 ⊢
      rw [e201, RM 186 (by decide)] at r1
      exact r1
    · rw [hset_n _ _ _ (by decide), r2 200 (by decide), hset_s, upd_s]
    · rw [hset_n _ _ _ (by decide), r2 211 (by decide), hset_n _ _ _ (by decide), hset_s, upd_s]
    · have e196 : (hset h9 206 s 1) 196 = upd (h 196) s 1 := by
        rw [hset_n _ _ _ (by decide), r2 196 (by decide), hset_n _ _ _ (by decide), hset_n _ _ _ (by decide), hset_s, g4 196 (by omega)]
      have e206 : (hset h9 206 s 1) 206 = upd (h 206) s 1 := by
        rw [hset_s, r2 206 (by decide), f8 206 (by decide) (by decide) (by decide), g4 206 (by omega)]
      rw [e196, e206]
      obtain ⟨i1, i2⟩ := SI k hk
      by_cases q : k = s
      · have ey : (fun k => if k = s then z else ks k) k = z := if_pos q
        rw [q, upd_s, upd_s]
        rw [q] at ey
        refine ⟨rfl, Or.inr ⟨rfl, ?_, ?_, ?_, fun m hm => ?_⟩⟩
        · rw [ey]; exact K
        · rw [ey]; exact g2.fr (fun i i1 i2 => f9 i (by omega) (by omega) (by omega) (by omega) (by omega))
        · rw [ey, f9 _ (by omega) (by omega) (by omega) (by omega) (by omega), g3]; exact h13
        · rw [ey, hset_n _ _ _ (by decide), r4 m (by omega) hm, Nat.zero_add, f8 201 (by decide) (by decide) (by decide), g4 201 (by omega)]
          exact RM m hm
      · have ey : (fun k => if k = s then z else ks k) k = ks k := if_neg q
        rw [ey, upd_n _ _ q, upd_n _ _ q]
        refine ⟨i1, ?_⟩
        rcases i2 with i2 | ⟨q1, q2, q3, q4, q5⟩
        · exact Or.inl i2
        · refine Or.inr ⟨q1, q2, q3.fr (fun i i1 i2 => fh i (by omega) (by omega) (by omega) (by omega) (by omega) (by omega)), ?_, fun m hm => ?_⟩
          · rw [fh _ (by omega) (by omega) (by omega) (by omega) (by omega) (by omega)]; exact q4
          · rw [hset_n _ _ _ (by decide), r3 (196 * k + m) (by omega), f8 205 (by decide) (by decide) (by decide), g4 205 (by omega)]
            exact q5 m hm
    · rw [fh 197 (by decide) (by decide) (by decide) (by decide) (by decide) (o _ (by decide))]
  · rw [if_neg c] at r
    simp only [if_neg c] at rm
    refine Ans.no (E := "java/lang/IndexOutOfBoundsException") (j := 1) (v := 0) I ?_ (wr1 _ _) (by decide) ?_
    · show f_F_save h 180 (iI x) = _
      unfold f_F_save
      rw [r, Option.bind_some, if_pos rfl]
    · show f_M_save h 200 (iI x) = _
      unfold f_M_save
      rw [rm, Option.bind_some, if_pos rfl, f_M_save_16, refused1, Option.bind_some]
      dsimp only
      rw [if_neg (by decide)]
theorem q_restore (I : INV B h) (x : Int32) : Ans B h ["java/lang/IndexOutOfBoundsException", "java/lang/IllegalStateException"] (fun h => f_F_restore h 180 x) (fun h => f_M_restore h 200 x) := by
  obtain ⟨-, ⟨ys, c', y, PI⟩, ⟨ks, SI⟩, ⟨t, n, TI⟩⟩ := id I
  obtain ⟨z, MI⟩ := I.1
  obtain ⟨RA, RM, h13, K⟩ := id MI
  obtain ⟨S, R, RP, F⟩ := id RA
  obtain ⟨⟨w1, w2⟩, ⟨n1, n2⟩, -⟩ := id F
  obtain ⟨x, hx, rfl⟩ := i32 x
  have r := in32 h hx ⟨by decide, by decide⟩ ⟨by decide, by decide⟩ lI0 lI1
  have rm := fun g => in64 g hx ⟨by decide, by decide⟩ ⟨by decide, by decide⟩ l640 l641
  by_cases c : 0 ≤ x ∧ x ≤ 1
  · rw [if_pos c] at r
    simp only [if_pos c] at rm
    obtain ⟨s, hs, rfl⟩ : ∃ s : Nat, s < 2 ∧ x = s := ⟨x.toNat, by omega, by omega⟩
    have cs : (iI (s : Int)).toNatClampNeg = s := by rw [iI_cl (by omega) (by omega)]; omega
    obtain ⟨i1, i2⟩ := SI s hs
    by_cases c0 : h 196 s = 0
    · refine Ans.no (E := "java/lang/IllegalStateException") (j := 2) (v := 0) I ?_ (wr22 _ (by decide)) (by decide) ?_
      · show f_F_restore h 180 (iI s) = _
        unfold f_F_restore f_L_isFilled
        rw [r, Option.bind_some, if_neg (by decide), Option.bind_some, if_neg (by decide), iI_ib (by omega) (by omega) (by omega), if_pos rfl, f03, fL1, cs, if_pos c0, Option.bind_some, if_pos rfl]
      · show f_M_restore h 200 (iI s) = _
        unfold f_M_restore
        rw [rm, Option.bind_some, if_neg (by decide), iI_ib (by omega) (by omega) (by omega), if_pos rfl, fA7, cs, i1, if_pos c0, f_M_restore_29, refused2, Option.bind_some]
        dsimp only
        rw [if_neg (by decide)]
    · rcases i2 with i2 | ⟨q1, q2, q3, q4, q5⟩
      · exact absurd i2 c0
      · obtain ⟨h1, g1, g2, g3, g4⟩ := a_become (b' := 160 + 10 * s) S (bss hs) (by omega) q3 q2.1
        have e1 : ∀ i, ¬ i < 10 → ¬ (185 ≤ i ∧ i ≤ 187) → h1 i = h i := fun i n1 n2 => g4 i (no_own i n1 n2)
        have e186 : (hset h1 192 2 0) 0 11 = iI (ks s 186) := by rw [hset_n _ _ _ (by decide)]; exact g2.2.1.1.2.2.1
        obtain ⟨h9, r1, r2, r3, r4⟩ := m_res39 hs 196 0 4096 (hset (hset (hset h1 192 2 0) 211 0 (iI (ks s 186))) 200 0 0) (by omega) (by omega) trivial
        have f8 : ∀ i, i ≠ 192 → i ≠ 200 → i ≠ 211 → (hset (hset (hset h1 192 2 0) 211 0 (iI (ks s 186))) 200 0 0) i = h1 i := fun i n1 n2 n3 => by rw [hset_n _ _ _ n2, hset_n _ _ _ n3, hset_n _ _ _ n1]
        have f9 : ∀ i, i ≠ 192 → i ≠ 200 → i ≠ 211 → i ≠ 201 → (hset h9 200 5 0) i = h1 i := fun i n1 n2 n3 n4 => by rw [hset_n _ _ _ n2, r2 i n4, f8 i n1 n2 n3]
        have fh : ∀ i, i ≠ 192 → i ≠ 200 → i ≠ 211 → i ≠ 201 → ¬ i < 10 → ¬ (185 ≤ i ∧ i ≤ 187) → (hset h9 200 5 0) i = h i := fun i n1 n2 n3 n4 n5 n6 => by rw [f9 i n1 n2 n3 n4, e1 i n5 n6]
        have s9 : ∀ k, k ≠ 0 → k ≠ 5 → (hset h9 200 5 0) 200 k = h 200 k := fun k n0 n5 => by
          rw [hset_s, upd_n _ _ n5, r2 200 (by decide), hset_s, upd_n _ _ n0, hset_n _ _ _ (by decide), hset_n _ _ _ (by decide), e1 200 (by decide) (by decide)]
        have R9 : RepM h9 201 (ks s) := fun m hm => by
          have e := r4 m (by omega) hm
          rw [Nat.zero_add] at e
          rw [e, f8 205 (by decide) (by decide) (by decide), e1 205 (by decide) (by decide)]
          exact q5 m hm
        have ck : f_L_kept h 194 (iI s) = some (160 + 10 * s) := by
          unfold f_L_kept
          rcases (by omega : s = 0 ∨ s = 1) with rfl | rfl
          · rw [if_pos (by decide)]; rfl
          · rw [if_neg (by decide)]; rfl
        refine Or.inl ⟨iI (ks s 186), hset h1 192 2 0, hset h9 200 5 0, ?_, ?_, ?_, ?_, ⟨ks s, ?_, R9.fr (hset_n _ _ _ (by decide)), ?_, q2⟩, ⟨ys, 0, y, ⟨by omega, PI.2.1, ?_, ?_, ?_, fun j hj => absurd hj (by omega)⟩⟩, ⟨ks, SI.fr (fun i hi => fh i (by omega) (by omega) (by omega) (by omega) (by omega) (by omega))⟩, ⟨t, n, TI.fr ?_ (s9 12 (by decide) (by decide)) (fh 198 (by decide) (by decide) (by decide) (by decide) (by decide) (by decide)) (fh 210 (by decide) (by decide) (by decide) (by decide) (by decide) (by decide))⟩⟩
        · show f_F_restore h 180 (iI s) = _
          unfold f_F_restore f_L_isFilled
          rw [r, Option.bind_some, if_neg (by decide), Option.bind_some, if_neg (by decide), iI_ib (by omega) (by omega) (by omega), if_pos rfl, f03, fL1, cs, if_neg c0, Option.bind_some, if_neg (by decide), ck, Option.bind_some, knd6 (bss hs), if_pos rfl, f0, g1, Option.bind_some, f_P_forget, f02, Option.bind_some, Option.bind_some, show fld 182 0 = 0 from rfl, e186]
        · show f_M_restore (hset (hset h1 192 2 0) 211 0 (iI (ks s 186))) 200 (iI s) = _
          have e : (hset (hset h1 192 2 0) 211 0 (iI (ks s 186))) 206 s = h 206 s := by rw [hset_n _ _ _ (by decide), hset_n _ _ _ (by decide), e1 206 (by decide) (by decide)]
          unfold f_M_restore
          rw [rm, Option.bind_some, if_neg (by decide), iI_ib (by omega) (by omega) (by omega), if_pos rfl, fA7, cs, e, i1, if_neg c0, f_M_restore_29, refused0, Option.bind_some]
          dsimp only
          rw [if_pos rfl]
          rw [R9 186 (by decide)] at r1
          rw [lI0] at r1 ⊢
          exact r1
        · rw [hset_s, upd_n _ _ (by decide), r2 200 (by decide), hset_s, upd_s]
        · rw [hset_n _ _ _ (by decide), r2 211 (by decide), hset_n _ _ _ (by decide), hset_s, upd_s]
        · exact g2.fr (fun i hi => by unfold own at hi; exact f9 i (by omega) (by omega) (by omega) (by omega))
        · rw [f9 0 (by decide) (by decide) (by decide) (by decide), g3]; exact q4
        · rw [hset_n _ _ _ (by decide), r2 192 (by decide), hset_n _ _ _ (by decide), hset_n _ _ _ (by decide), hset_s, upd_n _ _ (by decide), e1 192 (by decide) (by decide)]; exact PI.2.2.1
        · rw [hset_n _ _ _ (by decide), r2 192 (by decide), hset_n _ _ _ (by decide), hset_n _ _ _ (by decide), hset_s, upd_s]; exact lI0
        · rw [hset_s, upd_s]; exact lI0
        · rw [fh 197 (by decide) (by decide) (by decide) (by decide) (by decide) (by decide)]
  · rw [if_neg c] at r
    simp only [if_neg c] at rm
    refine Ans.no (E := "java/lang/IndexOutOfBoundsException") (j := 1) (v := 0) I ?_ (wr12 _ _ _) (by decide) ?_
    · show f_F_restore h 180 (iI x) = _
      unfold f_F_restore
      rw [r, Option.bind_some, if_pos rfl]
    · show f_M_restore h 200 (iI x) = _
      unfold f_M_restore
      rw [rm, Option.bind_some, if_pos rfl, f_M_restore_29, refused1, Option.bind_some]
      dsimp only
      rw [if_neg (by decide)]
end CALLD
