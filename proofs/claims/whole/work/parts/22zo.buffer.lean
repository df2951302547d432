/-! the law's calls: the text's buffer -/
section CALLT
variable {h g : HP} {a b p : Nat} {z : Nat → Int} {B : Int}
theorem fT0 : fld 197 0 = 198 := rfl
theorem fT1 : fld 197 1 = 199 := rfl
theorem chr1 : ∀ v : Fin 256, ((iI (v.val : Int)).toUInt32 % 65536).toInt32 = iI (v.val : Int) := by decide +kernel
theorem chr2 : ∀ v : Fin 256, vp_nar .char (iI (v.val : Int)) = iI (v.val : Int) := by decide +kernel
theorem q_append (I : INV B h) (x : Int32) : Ans B h ["java/lang/IllegalArgumentException", "java/lang/IllegalStateException"] (fun h => f_F_append h 180 x) (fun h => f_M_append h 200 x) := by
  obtain ⟨⟨z, MI⟩, ⟨ys, c', y, PI⟩, ⟨ks, SI⟩, ⟨t, n, TI⟩⟩ := id I
  obtain ⟨t1, t2, t3, t4⟩ := id TI
  obtain ⟨x, hx, rfl⟩ := i32 x
  have r := in32 h hx ⟨by decide, by decide⟩ ⟨by decide, by decide⟩ lI0 lI255
  have rm := fun g => in64 g hx ⟨by decide, by decide⟩ ⟨by decide, by decide⟩ l640 l64255
  by_cases c : 0 ≤ x ∧ x ≤ 255
  · rw [if_pos c] at r
    simp only [if_pos c] at rm
    by_cases cn : n = 120
    · refine Ans.no (E := "java/lang/IllegalStateException") (j := 2) (v := 0) I ?_ (wr22 _ (by decide)) (by decide) ?_
      · show f_F_append h 180 (iI x) = _
        unfold f_F_append f_T_size
        rw [r, Option.bind_some, if_neg (by decide), f04, t2, Option.bind_some, lI120, tLe (by omega) (by omega) (by omega) (by omega), if_pos (by omega), f_F_append_28, if_pos rfl]
      · show f_M_append h 200 (iI x) = _
        unfold f_M_append
        rw [rm, Option.bind_some, if_neg (by decide), t3, lI120, tEq (by omega) (by omega) (by omega) (by omega), if_pos (by omega), f_M_append_31, refused2, Option.bind_some]
        dsimp only
        rw [if_neg (by decide)]
    · have ex : ∃ v : Fin 256, (v.val : Int) = x := ⟨⟨x.toNat, by omega⟩, by show ((x.toNat : Nat) : Int) = x; omega⟩
      obtain ⟨v, hv⟩ := ex
      have k1 := chr1 v
      have k2 := chr2 v
      rw [hv] at k1 k2
      have en : (iI (n : Int)).toNatClampNeg = n := by rw [iI_cl (by omega) (by omega)]; omega
      have q : ∀ i, i ≠ 197 → i ≠ 198 → i ≠ 200 → i ≠ 210 → i ≠ 211 → (hset (hset (hset (hset (hset (hset h 198 n (iI x)) 197 2 (iI ((n : Int) + 1))) 211 0 (iI ((n : Int) + 1))) 200 0 0) 210 n (iI x)) 200 12 (iI ((n : Int) + 1))) i = h i := fun i n1 n2 n3 n4 n5 => by
        rw [hset_n _ _ _ n3, hset_n _ _ _ n4, hset_n _ _ _ n3, hset_n _ _ _ n5, hset_n _ _ _ n1, hset_n _ _ _ n2]
      refine Or.inl ⟨iI ((n : Int) + 1), hset (hset h 198 n (iI x)) 197 2 (iI ((n : Int) + 1)), hset (hset (hset (hset (hset (hset h 198 n (iI x)) 197 2 (iI ((n : Int) + 1))) 211 0 (iI ((n : Int) + 1))) 200 0 0) 210 n (iI x)) 200 12 (iI ((n : Int) + 1)), ?_, ?_, ?_, ?_, ⟨z, MI.fr (fun i hi => q i (by omega) (by omega) (by omega) (by omega) (by omega))⟩, ⟨ys, c', y, PI.fr (fun i hi => q i (by omega) (by omega) (by omega) (by omega) (by omega)) ?_⟩, ⟨ks, SI.fr (fun i hi => q i (by omega) (by omega) (by omega) (by omega) (by omega))⟩, ⟨fun i => if i = n then x else t i, n + 1, by omega, ?_, ?_, fun i hi => ?_⟩⟩
      · show f_F_append h 180 (iI x) = _
        unfold f_F_append f_T_size
        have e2 : hset h 198 n (iI x) 197 2 = iI n := by rw [hset_n _ _ _ (by decide)]; exact t2
        have e3 : (hset (hset h 198 n (iI x)) 197 2 (iI ((n : Int) + 1))) 197 2 = iI ((n : Int) + 1) := by rw [hset_s, upd_s]
        rw [r, Option.bind_some, if_neg (by decide), f04, t2, Option.bind_some, lI120, tLe (by omega) (by omega) (by omega) (by omega), if_neg (by omega), f_F_append_28, if_neg (by decide), k1, f_T_add, f04, t2]
        rw [lI0, lI120, tLt (by omega) (by omega) (by omega) (by omega), if_neg (by omega), tLe (by omega) (by omega) (by omega) (by omega), if_neg (by omega), iI_ib (by omega) (by omega) (by omega), if_pos rfl, k2, if_pos rfl, fT0, en, Option.bind_some, e2, lI1, iI_add, Option.bind_some, f_T_add_36, e3, Option.bind_some]
      · show f_M_append (hset (hset (hset h 198 n (iI x)) 197 2 (iI ((n : Int) + 1))) 211 0 (iI ((n : Int) + 1))) 200 (iI x) = _
        have e1 : (hset (hset (hset h 198 n (iI x)) 197 2 (iI ((n : Int) + 1))) 211 0 (iI ((n : Int) + 1))) 200 12 = iI n := by rw [hset_n _ _ _ (by decide), hset_n _ _ _ (by decide), hset_n _ _ _ (by decide)]; exact t3
        have e2 : (hset (hset (hset (hset h 198 n (iI x)) 197 2 (iI ((n : Int) + 1))) 211 0 (iI ((n : Int) + 1))) 200 0 0) 200 12 = iI n := by rw [hset_s, upd_n _ _ (by decide)]; exact e1
        have e3 : (hset (hset (hset (hset (hset h 198 n (iI x)) 197 2 (iI ((n : Int) + 1))) 211 0 (iI ((n : Int) + 1))) 200 0 0) 210 n (iI x)) 200 12 = iI n := by rw [hset_n _ _ _ (by decide)]; exact e2
        unfold f_M_append
        rw [rm, Option.bind_some, if_neg (by decide), e1, lI120, tEq (by omega) (by omega) (by omega) (by omega), if_neg (by omega), f_M_append_31, refused0, Option.bind_some]
        show (if (0 : Int32) = 0 then (if ib ((hset (hset (hset (hset h 198 n (iI x)) 197 2 (iI ((n : Int) + 1))) 211 0 (iI ((n : Int) + 1))) 200 0 0) 200 12) 120 = true then (some (hset (hset (hset (hset (hset h 198 n (iI x)) 197 2 (iI ((n : Int) + 1))) 211 0 (iI ((n : Int) + 1))) 200 0 0) (fld 200 11) ((hset (hset (hset (hset h 198 n (iI x)) 197 2 (iI ((n : Int) + 1))) 211 0 (iI ((n : Int) + 1))) 200 0 0) 200 12).toNatClampNeg (iI x))).bind (fun h5 => (some (hset h5 200 12 ((h5 200 12) + (1 : Int32)))).bind fun h7 => some (h7 200 12, h7)) else none) else _) = _
        rw [if_pos rfl, e2, iI_ib (by omega) (by omega) (by omega), if_pos rfl, fA11, en, Option.bind_some, e3, lI1, iI_add, Option.bind_some, hset_s, upd_s]
      · rw [hset_s, upd_n _ _ (by decide), hset_n _ _ _ (by decide), hset_s, upd_s]
      · rw [hset_n _ _ _ (by decide), hset_n _ _ _ (by decide), hset_n _ _ _ (by decide), hset_s, upd_s]
      · rw [hset_s, upd_n _ _ (by decide), hset_n _ _ _ (by decide), hset_s, upd_n _ _ (by decide), hset_n _ _ _ (by decide), hset_n _ _ _ (by decide), hset_n _ _ _ (by decide)]
      · rw [hset_n _ _ _ (by decide), hset_n _ _ _ (by decide), hset_n _ _ _ (by decide), hset_n _ _ _ (by decide), hset_s, upd_s]
        rfl
      · rw [hset_s, upd_s]
        rfl
      · have e198 : (hset (hset (hset (hset (hset (hset h 198 n (iI x)) 197 2 (iI ((n : Int) + 1))) 211 0 (iI ((n : Int) + 1))) 200 0 0) 210 n (iI x)) 200 12 (iI ((n : Int) + 1))) 198 = upd (h 198) n (iI x) := by
          rw [hset_n _ _ _ (by decide), hset_n _ _ _ (by decide), hset_n _ _ _ (by decide), hset_n _ _ _ (by decide), hset_n _ _ _ (by decide), hset_s]
        have e210 : (hset (hset (hset (hset (hset (hset h 198 n (iI x)) 197 2 (iI ((n : Int) + 1))) 211 0 (iI ((n : Int) + 1))) 200 0 0) 210 n (iI x)) 200 12 (iI ((n : Int) + 1))) 210 = upd (h 210) n (iI x) := by
          rw [hset_n _ _ _ (by decide), hset_s, hset_n _ _ _ (by decide), hset_n _ _ _ (by decide), hset_n _ _ _ (by decide), hset_n _ _ _ (by decide)]
        rw [e198, e210]
        by_cases qi : i = n
        · have ey : (fun i => if i = n then x else t i) i = x := if_pos qi
          rw [ey, qi, upd_s, upd_s]
          exact ⟨c, rfl, rfl⟩
        · have ey : (fun i => if i = n then x else t i) i = t i := if_neg qi
          rw [ey, upd_n _ _ qi, upd_n _ _ qi]
          exact t4 i (by omega)
  · rw [if_neg c] at r
    simp only [if_neg c] at rm
    refine Ans.no (E := "java/lang/IllegalArgumentException") (j := 1) (v := 0) I ?_ (wr12 _ _ _) (by decide) ?_
    · show f_F_append h 180 (iI x) = _
      unfold f_F_append
      rw [r, Option.bind_some, if_pos rfl]
    · show f_M_append h 200 (iI x) = _
      unfold f_M_append
      rw [rm, Option.bind_some, if_pos rfl, f_M_append_31, refused1, Option.bind_some]
      dsimp only
      rw [if_neg (by decide)]
theorem q_clear (I : INV B h) : ∃ x h1 h2, f_F_clearText h 180 = some (x, h1) ∧ f_M_clearText h1 200 = some (x, h2) ∧ INV B h2 := by
  obtain ⟨⟨z, MI⟩, ⟨ys, c', y, PI⟩, ⟨ks, SI⟩, ⟨t, n, TI⟩⟩ := I
  obtain ⟨t1, t2, t3, t4⟩ := id TI
  have q : ∀ i, i ≠ 197 → i ≠ 200 → (hset (hset (hset h 197 2 0) 200 0 0) 200 12 0) i = h i := fun i n1 n2 => by rw [hset_n _ _ _ n2, hset_n _ _ _ n2, hset_n _ _ _ n1]
  refine ⟨iI n, hset h 197 2 0, hset (hset (hset h 197 2 0) 200 0 0) 200 12 0, ?_, ?_, ⟨z, MI.fr (fun i hi => q i (by omega) (by omega))⟩, ⟨ys, c', y, PI.fr (fun i hi => q i (by omega) (by omega)) ?_⟩, ⟨ks, SI.fr (fun i hi => q i (by omega) (by omega))⟩, ⟨t, 0, by omega, ?_, ?_, fun i hi => absurd hi (by omega)⟩⟩
  · unfold f_F_clearText f_T_empty
    rw [f04, Option.bind_some, Option.bind_some, t2]
  · have e : (hset (hset h 197 2 0) 200 0 0) 200 12 = iI n := by rw [hset_s, upd_n _ _ (by decide), hset_n _ _ _ (by decide)]; exact t3
    unfold f_M_clearText
    rw [Option.bind_some, Option.bind_some, e]
  · rw [hset_s, upd_n _ _ (by decide), hset_s, upd_n _ _ (by decide), hset_n _ _ _ (by decide)]
  · rw [hset_n _ _ _ (by decide), hset_n _ _ _ (by decide), hset_s, upd_s]
    rfl
  · rw [hset_s, upd_s]
    rfl
end CALLT
