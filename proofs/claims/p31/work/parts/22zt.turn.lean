/-! turns of a simulation -/
section TURN
variable {h g : HP} {a b p : Nat} {z : Nat → Int} {B : Int}
theorem c_turn (RA : RepA h a b p z) (K : OKz B z) (hB : B < 2147483648) {r : Int} (hr : 0 ≤ r ∧ r < 2147483648) : ∃ h', f_C_takeTurn h a (iI r) = some h' ∧ RepA h' a b p (trnZ z r).2 ∧ (∀ i, ¬ own b p i → h' i = h i) ∧ h' b 13 = h b 13 := by
  have eQ : iI r / (16 : Int32) = iI (r / 16) := divI lI16 (by omega) (by omega) (by omega) (by omega)
  have eR : iI r - iI r / (16 : Int32) * (16 : Int32) = iI (r % 16) := modI lI16 (by omega) (by omega) (by omega) (by omega)
  have e27 : iI (r / 16) - iI (r / 16) / (27 : Int32) * (27 : Int32) = iI (r / 16 % 27) := modI lI27 (by omega) (by omega) (by omega) (by omega)
  have e4 : iI (r / 16) - iI (r / 16) / (4 : Int32) * (4 : Int32) = iI (r / 16 % 4) := modI lI4 (by omega) (by omega) (by omega) (by omega)
  have e6 : iI (r / 16) - iI (r / 16) / (6 : Int32) * (6 : Int32) = iI (r / 16 % 6) := modI lI6 (by omega) (by omega) (by omega) (by omega)
  have e10 : iI (r / 16) - iI (r / 16) / (10 : Int32) * (10 : Int32) = iI (r / 16 % 10) := modI lI10 (by omega) (by omega) (by omega) (by omega)
  have e5 : iI (r / 16) - iI (r / 16) / (5 : Int32) * (5 : Int32) = iI (r / 16 % 5) := modI lI5 (by omega) (by omega) (by omega) (by omega)
  have d4 : iI (r / 16) / (4 : Int32) = iI (r / 16 / 4) := divI lI4 (by omega) (by omega) (by omega) (by omega)
  have d8 : iI (r / 16) / (8 : Int32) = iI (r / 16 / 8) := divI lI8 (by omega) (by omega) (by omega) (by omega)
  have d16 : iI (r / 16) / (16 : Int32) = iI (r / 16 / 16) := divI lI16 (by omega) (by omega) (by omega) (by omega)
  have d64 : iI (r / 16) / (64 : Int32) = iI (r / 16 / 64) := divI lI64 (by omega) (by omega) (by omega) (by omega)
  have d128 : iI (r / 16) / (128 : Int32) = iI (r / 16 / 128) := divI lI128 (by omega) (by omega) (by omega) (by omega)
  have m430 : iI (r / 16 / 4) - iI (r / 16 / 4) / (30 : Int32) * (30 : Int32) = iI (r / 16 / 4 % 30) := modI lI30 (by omega) (by omega) (by omega) (by omega)
  have m89 : iI (r / 16 / 8) - iI (r / 16 / 8) / (9 : Int32) * (9 : Int32) = iI (r / 16 / 8 % 9) := modI lI9 (by omega) (by omega) (by omega) (by omega)
  have m812 : iI (r / 16 / 8) - iI (r / 16 / 8) / (12 : Int32) * (12 : Int32) = iI (r / 16 / 8 % 12) := modI lI12 (by omega) (by omega) (by omega) (by omega)
  have m164 : iI (r / 16 / 16) - iI (r / 16 / 16) / (4 : Int32) * (4 : Int32) = iI (r / 16 / 16 % 4) := modI lI4 (by omega) (by omega) (by omega) (by omega)
  have m1610 : iI (r / 16 / 16) - iI (r / 16 / 16) / (10 : Int32) * (10 : Int32) = iI (r / 16 / 16 % 10) := modI lI10 (by omega) (by omega) (by omega) (by omega)
  have m6430 : iI (r / 16 / 64) - iI (r / 16 / 64) / (30 : Int32) * (30 : Int32) = iI (r / 16 / 64 % 30) := modI lI30 (by omega) (by omega) (by omega) (by omega)
  have m1285 : iI (r / 16 / 128) - iI (r / 16 / 128) / (5 : Int32) * (5 : Int32) = iI (r / 16 / 128 % 5) := modI lI5 (by omega) (by omega) (by omega) (by omega)
  have m1284 : iI (r / 16 / 128) - iI (r / 16 / 128) / (4 : Int32) * (4 : Int32) = iI (r / 16 / 128 % 4) := modI lI4 (by omega) (by omega) (by omega) (by omega)
  unfold f_C_takeTurn
  rw [eR, eQ]
  obtain ⟨k, hk⟩ : ∃ k, k = r % 16 := ⟨_, rfl⟩
  rw [← hk]
  rcases (by omega : k = 0 ∨ k = 1 ∨ k = 2 ∨ k = 3 ∨ k = 4 ∨ k = 5 ∨ k = 6 ∨ k = 7 ∨ k = 8 ∨ k = 9 ∨ k = 10 ∨ k = 11 ∨ k = 12 ∨ k = 13 ∨ k = 14 ∨ k = 15) with rfl | rfl | rfl | rfl | rfl | rfl | rfl | rfl | rfl | rfl | rfl | rfl | rfl | rfl | rfl | rfl
  · have eg : trnZ z r = doW z (4 + r / 16 % 27) := by
      unfold trnZ
      rw [if_pos (by omega)]
    rw [eg, if_pos (by decide), e27, lI4, iI_add]
    exact (c_wall RA ⟨by omega, by omega⟩).tu
  · have eg : trnZ z r = doO z (r / 16 % 4) (r / 16 / 4 % 30) (r / 16 / 128 % 5) := by
      unfold trnZ
      rw [if_neg (by omega), if_pos (by omega)]
    rw [eg, if_neg (by decide), if_pos (by decide), e4, d4, m430, d128, m1285]
    exact (c_outlet RA ⟨by omega, by omega⟩ ⟨by omega, by omega⟩ ⟨by omega, by omega⟩).tu
  · have eg : trnZ z r = doO z (r / 16 % 4) (r / 16 / 4 % 30) (r / 16 / 128 % 5) := by
      unfold trnZ
      rw [if_neg (by omega), if_pos (by omega)]
    rw [eg, if_neg (by decide), if_neg (by decide), if_pos (by decide), e4, d4, m430, d128, m1285]
    exact (c_outlet RA ⟨by omega, by omega⟩ ⟨by omega, by omega⟩ ⟨by omega, by omega⟩).tu
  · have eg : trnZ z r = doD z (r / 16 % 6) (1 + r / 16 / 8 % 9) (r / 16 / 128 % 4) := by
      unfold trnZ
      rw [if_neg (by omega), if_neg (by omega), if_pos (by omega)]
    rw [eg, if_neg (by decide), if_neg (by decide), if_neg (by decide), if_pos (by decide), e6, d8, m89, d128, m1284, lI1, iI_add]
    exact (c_dealer RA K.2.1 ⟨by omega, by omega⟩ ⟨by omega, by omega⟩ ⟨by omega, by omega⟩).tu
  · have eg : trnZ z r = doD z (r / 16 % 6) (1 + r / 16 / 8 % 9) (r / 16 / 128 % 4) := by
      unfold trnZ
      rw [if_neg (by omega), if_neg (by omega), if_pos (by omega)]
    rw [eg, if_neg (by decide), if_neg (by decide), if_neg (by decide), if_neg (by decide), if_pos (by decide), e6, d8, m89, d128, m1284, lI1, iI_add]
    exact (c_dealer RA K.2.1 ⟨by omega, by omega⟩ ⟨by omega, by omega⟩ ⟨by omega, by omega⟩).tu
  · have eg : trnZ z r = doD z (r / 16 % 6) (1 + r / 16 / 8 % 9) (r / 16 / 128 % 4) := by
      unfold trnZ
      rw [if_neg (by omega), if_neg (by omega), if_pos (by omega)]
    rw [eg, if_neg (by decide), if_neg (by decide), if_neg (by decide), if_neg (by decide), if_neg (by decide), if_pos (by decide), e6, d8, m89, d128, m1284, lI1, iI_add]
    exact (c_dealer RA K.2.1 ⟨by omega, by omega⟩ ⟨by omega, by omega⟩ ⟨by omega, by omega⟩).tu
  · have eg : trnZ z r = doP 1 z (r / 16 % 10) (r / 16 / 16 % 4) (r / 16 / 64 % 30) := by
      unfold trnZ
      rw [if_neg (by omega), if_neg (by omega), if_neg (by omega), if_pos (by omega)]
    rw [eg, if_neg (by decide), if_neg (by decide), if_neg (by decide), if_neg (by decide), if_neg (by decide), if_neg (by decide), if_pos (by decide), e10, d16, m164, d64, m6430]
    exact (c_place RA 1 ⟨by omega, by omega⟩ ⟨by omega, by omega⟩ ⟨by omega, by omega⟩).tu
  · have eg : trnZ z r = doP 1 z (r / 16 % 10) (r / 16 / 16 % 4) (r / 16 / 64 % 30) := by
      unfold trnZ
      rw [if_neg (by omega), if_neg (by omega), if_neg (by omega), if_pos (by omega)]
    rw [eg, if_neg (by decide), if_neg (by decide), if_neg (by decide), if_neg (by decide), if_neg (by decide), if_neg (by decide), if_neg (by decide), if_pos (by decide), e10, d16, m164, d64, m6430]
    exact (c_place RA 1 ⟨by omega, by omega⟩ ⟨by omega, by omega⟩ ⟨by omega, by omega⟩).tu
  · have eg : trnZ z r = doP 1 z (r / 16 % 10) (r / 16 / 16 % 4) (r / 16 / 64 % 30) := by
      unfold trnZ
      rw [if_neg (by omega), if_neg (by omega), if_neg (by omega), if_pos (by omega)]
    rw [eg, if_neg (by decide), if_neg (by decide), if_neg (by decide), if_neg (by decide), if_neg (by decide), if_neg (by decide), if_neg (by decide), if_neg (by decide), if_pos (by decide), e10, d16, m164, d64, m6430]
    exact (c_place RA 1 ⟨by omega, by omega⟩ ⟨by omega, by omega⟩ ⟨by omega, by omega⟩).tu
  · have eg : trnZ z r = doP 1 z (r / 16 % 10) (r / 16 / 16 % 4) (r / 16 / 64 % 30) := by
      unfold trnZ
      rw [if_neg (by omega), if_neg (by omega), if_neg (by omega), if_pos (by omega)]
    rw [eg, if_neg (by decide), if_neg (by decide), if_neg (by decide), if_neg (by decide), if_neg (by decide), if_neg (by decide), if_neg (by decide), if_neg (by decide), if_neg (by decide), if_pos (by decide), e10, d16, m164, d64, m6430]
    exact (c_place RA 1 ⟨by omega, by omega⟩ ⟨by omega, by omega⟩ ⟨by omega, by omega⟩).tu
  · have eg : trnZ z r = doL z (r / 16 % 10) := by
      unfold trnZ
      rw [if_neg (by omega), if_neg (by omega), if_neg (by omega), if_neg (by omega), if_pos (by omega)]
    rw [eg, if_neg (by decide), if_neg (by decide), if_neg (by decide), if_neg (by decide), if_neg (by decide), if_neg (by decide), if_neg (by decide), if_neg (by decide), if_neg (by decide), if_neg (by decide), if_pos (by decide), e10]
    exact (c_leave RA K.2.1 hB ⟨by omega, by omega⟩).tu
  · have eg : trnZ z r = doS 1 z (r / 16 % 10) (r / 16 / 16 % 10) := by
      unfold trnZ
      rw [if_neg (by omega), if_neg (by omega), if_neg (by omega), if_neg (by omega), if_neg (by omega), if_pos (by omega)]
    rw [eg, if_neg (by decide), if_neg (by decide), if_neg (by decide), if_neg (by decide), if_neg (by decide), if_neg (by decide), if_neg (by decide), if_neg (by decide), if_neg (by decide), if_neg (by decide), if_neg (by decide), if_pos (by decide), e10, d16, m1610]
    exact (c_swap RA 1 ⟨by omega, by omega⟩ ⟨by omega, by omega⟩).tu
  · have eg : trnZ z r = doS 1 z (r / 16 % 10) (r / 16 / 16 % 10) := by
      unfold trnZ
      rw [if_neg (by omega), if_neg (by omega), if_neg (by omega), if_neg (by omega), if_neg (by omega), if_pos (by omega)]
    rw [eg, if_neg (by decide), if_neg (by decide), if_neg (by decide), if_neg (by decide), if_neg (by decide), if_neg (by decide), if_neg (by decide), if_neg (by decide), if_neg (by decide), if_neg (by decide), if_neg (by decide), if_neg (by decide), if_pos (by decide), e10, d16, m1610]
    exact (c_swap RA 1 ⟨by omega, by omega⟩ ⟨by omega, by omega⟩).tu
  · have eg : trnZ z r = doE z (r / 16 % 6) (r / 16 / 8 % 12) := by
      unfold trnZ
      rw [if_neg (by omega), if_neg (by omega), if_neg (by omega), if_neg (by omega), if_neg (by omega), if_neg (by omega), if_pos (by omega)]
    rw [eg, if_neg (by decide), if_neg (by decide), if_neg (by decide), if_neg (by decide), if_neg (by decide), if_neg (by decide), if_neg (by decide), if_neg (by decide), if_neg (by decide), if_neg (by decide), if_neg (by decide), if_neg (by decide), if_neg (by decide), if_pos (by decide), e6, d8, m812]
    exact (c_set RA ⟨by omega, by omega⟩ ⟨by omega, by omega⟩).tu
  · have eg : trnZ z r = doN z (1 + r / 16 % 5) := by
      unfold trnZ
      rw [if_neg (by omega), if_neg (by omega), if_neg (by omega), if_neg (by omega), if_neg (by omega), if_neg (by omega), if_neg (by omega)]
    rw [eg, if_neg (by decide), if_neg (by decide), if_neg (by decide), if_neg (by decide), if_neg (by decide), if_neg (by decide), if_neg (by decide), if_neg (by decide), if_neg (by decide), if_neg (by decide), if_neg (by decide), if_neg (by decide), if_neg (by decide), if_neg (by decide), e5, lI1, iI_add]
    exact (c_days RA ⟨by omega, by omega⟩).tu
  · have eg : trnZ z r = doN z (1 + r / 16 % 5) := by
      unfold trnZ
      rw [if_neg (by omega), if_neg (by omega), if_neg (by omega), if_neg (by omega), if_neg (by omega), if_neg (by omega), if_neg (by omega)]
    rw [eg, if_neg (by decide), if_neg (by decide), if_neg (by decide), if_neg (by decide), if_neg (by decide), if_neg (by decide), if_neg (by decide), if_neg (by decide), if_neg (by decide), if_neg (by decide), if_neg (by decide), if_neg (by decide), if_neg (by decide), if_neg (by decide), e5, lI1, iI_add]
    exact (c_days RA ⟨by omega, by omega⟩).tu
end TURN
