/-! what changes a row: a dealer more (the class) -/
section ADMIT
variable {h : HP} {a b p : Nat} {z : Nat → Int}
theorem RepS.dealer (R : RepS h b z) (F : WF z) (h10 : z 185 < 10) (O : z (129 + 6 * (z 185).toNat) = 0) (g f w : Int) : RepS (hset (hset (hset (hset (hset (hset (hset h (b + 3) (z 185).toNat (iI g)) (b + 4) (z 185).toNat (iI f)) (b + 5) (z 185).toNat (iI w)) (b + 6) (z 185).toNat (iI (-1))) (b + 7) (z 185).toNat (iI (-1))) (b + 8) (z 185).toNat (iI 0)) b 10 (iI (z 185 + 1))) b (zdl z g f w) := by
  obtain ⟨-, ⟨n1, n2⟩, -⟩ := id F
  obtain ⟨⟨r1, r2, r3, r4⟩, r5, r6, r7, r8⟩ := R
  have n : ∀ k : Nat, k ≠ 185 → (k < 124 + 6 * (z 185).toNat ∨ 129 + 6 * (z 185).toNat ≤ k) → zdl z g f w k = z k := fun k h1 h2 => zdl_n z g f w h1 h2
  refine ⟨⟨?_, ?_, ?_, ?_⟩, fun e he => ?_, fun e m he hm => ?_, fun d k hd h2 hk => ?_, fun j hj => ?_⟩
  · rw [hset_s, upd_n _ _ (by decide), hset_n _ _ _ (by omega), hset_n _ _ _ (by omega), hset_n _ _ _ (by omega), hset_n _ _ _ (by omega), hset_n _ _ _ (by omega), hset_n _ _ _ (by omega), n _ (by omega) (by omega)]; exact r1
  · rw [hset_s, upd_s, zdl_185]
  · rw [hset_s, upd_n _ _ (by decide), hset_n _ _ _ (by omega), hset_n _ _ _ (by omega), hset_n _ _ _ (by omega), hset_n _ _ _ (by omega), hset_n _ _ _ (by omega), hset_n _ _ _ (by omega), n _ (by omega) (by omega)]; exact r3
  · rw [hset_s, upd_n _ _ (by decide), hset_n _ _ _ (by omega), hset_n _ _ _ (by omega), hset_n _ _ _ (by omega), hset_n _ _ _ (by omega), hset_n _ _ _ (by omega), hset_n _ _ _ (by omega), n _ (by omega) (by omega)]; exact r4
  · rw [hset_n _ _ _ (by omega), hset_n _ _ _ (by omega), hset_n _ _ _ (by omega), hset_n _ _ _ (by omega), hset_n _ _ _ (by omega), hset_n _ _ _ (by omega), hset_n _ _ _ (by omega), n _ (by omega) (by omega)]; exact r5 e he
  · rw [hset_n _ _ _ (by omega), hset_n _ _ _ (by omega), hset_n _ _ _ (by omega), hset_n _ _ _ (by omega), hset_n _ _ _ (by omega), hset_n _ _ _ (by omega), hset_n _ _ _ (by omega), n _ (by omega) (by omega)]; exact r6 e m he hm
  · rw [zdl_185] at h2
    by_cases q : d = (z 185).toNat
    · have ks : k = 0 ∨ k = 1 ∨ k = 2 ∨ k = 3 ∨ k = 4 ∨ k = 5 := by omega
      rw [q]
      unfold zdl hset upd uI
      rcases ks with rfl | rfl | rfl | rfl | rfl | rfl
      · simp (disch := omega) only [if_neg, if_pos, if_true]
      · simp (disch := omega) only [if_neg, if_pos, if_true]
      · simp (disch := omega) only [if_neg, if_pos, if_true]
      · simp (disch := omega) only [if_neg, if_pos, if_true]
      · simp (disch := omega) only [if_neg, if_pos, if_true]
      · simp (disch := omega) only [if_neg, if_pos, if_true]
        rw [show 124 + 6 * (z 185).toNat + 5 = 129 + 6 * (z 185).toNat by omega, O]
    · have ks : k = 0 ∨ k = 1 ∨ k = 2 ∨ k = 3 ∨ k = 4 ∨ k = 5 := by omega
      rw [n _ (by omega) (by omega), ← r7 d k hd (by omega) hk]
      unfold hset upd
      rcases ks with rfl | rfl | rfl | rfl | rfl | rfl <;> simp (disch := omega) only [if_neg, if_pos, if_true]
  · rw [hset_n _ _ _ (by omega), hset_n _ _ _ (by omega), hset_n _ _ _ (by omega), hset_n _ _ _ (by omega), hset_n _ _ _ (by omega), hset_n _ _ _ (by omega), hset_n _ _ _ (by omega), n _ (by omega) (by omega)]; exact r8 j hj
end ADMIT
