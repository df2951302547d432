/-! copies of rows and states -/
def czR (h hk : HP) (b b' j : Nat) : Prop := (∀ i, ¬ (b' + 1 ≤ i ∧ i < b' + 1 + j) → hk i = h i) ∧ ∀ i, i < j → ∀ m, m < sT.getD (i + 1) 0 → hk (b' + 1 + i) m = h (b + 1 + i) m
section COPY
variable {h : HP} {a b p : Nat} {z : Nat → Int}
theorem czR.step {hk : HP} {b' j n : Nat} (C : czR h hk b b' j) (hb : b + 10 ≤ b' ∨ b' + 10 ≤ b) (hj : j < 9) (hn : n = sT.getD (j + 1) 0) : czR h (hrow hk (b' + 1 + j) (cpy0 (hk (b + 1 + j)) (hk (b' + 1 + j)) n)) b b' (j + 1) := by
  obtain ⟨c1, c2⟩ := C
  refine ⟨fun i hi => ?_, fun i hi m hm => ?_⟩
  · rw [hrow_n _ _ (by omega)]; exact c1 i (by omega)
  · by_cases q : i = j
    · rw [q, hrow_s]
      unfold cpy0
      rw [if_pos (by rw [hn, ← q]; exact hm), c1 (b + 1 + j) (by omega)]
    · rw [hrow_n _ _ (by omega)]; exact c2 i (by omega) m hm
theorem s_copy {b' : Nat} (B : BS b) (B' : BS b') (hne : b ≠ b') (R : RepS h b z) : ∃ h' : HP, f_S_copy h b' b = some h' ∧ RepS h' b' z ∧ h' b' 13 = h b 13 ∧ ∀ i, ¬ (b' ≤ i ∧ i < b' + 10) → h' i = h i := by
  have hb : b + 10 ≤ b' ∨ b' + 10 ≤ b := by
    obtain ⟨x1, x2⟩ := B
    obtain ⟨y1, y2⟩ := B'
    omega
  obtain ⟨⟨r1, r2, r3, r4⟩, r5, r6, r7, r8⟩ := R
  unfold f_S_copy
  simp only [B.fld, B'.fld, Option.bind_some]
  have C0 : czR h h b b' 0 := ⟨fun i _ => rfl, fun i hi => absurd hi (by omega)⟩
  have C := ((((((((C0.step hb (by decide) (n := 4) rfl).step hb (by decide) (n := 120) rfl).step hb (by decide) (n := 10) rfl).step hb (by decide) (n := 10) rfl).step hb (by decide) (n := 10) rfl).step hb (by decide) (n := 10) rfl).step hb (by decide) (n := 10) rfl).step hb (by decide) (n := 10) rfl).step hb (by decide) (n := 6) rfl
  revert C
  generalize hrow (hrow (hrow (hrow (hrow (hrow (hrow (hrow (hrow h _ _) _ _) _ _) _ _) _ _) _ _) _ _) _ _) _ _ = hk
  intro C
  obtain ⟨c1, c2⟩ := C
  have nb : b ≠ b' := hne
  have kb : hk b = h b := c1 b (by omega)
  have kb' : hk b' = h b' := c1 b' (by omega)
  have rd : ∀ (g : HP) (s v) , hset g b' s v b = g b := fun g s v => hset_n _ _ _ nb
  simp only [rd, kb]
  have fr : ∀ i, i ≠ b' → (hset (hset (hset (hset (hset hk b' 9 (h b 9)) b' 10 (h b 10)) b' 11 (h b 11)) b' 12 (h b 12)) b' 13 (h b 13)) i = hk i := fun i hi => by
    rw [hset_n _ _ _ hi, hset_n _ _ _ hi, hset_n _ _ _ hi, hset_n _ _ _ hi, hset_n _ _ _ hi]
  have sl : ∀ s, 9 ≤ s → s ≤ 13 → (hset (hset (hset (hset (hset hk b' 9 (h b 9)) b' 10 (h b 10)) b' 11 (h b 11)) b' 12 (h b 12)) b' 13 (h b 13)) b' s = h b s := fun s h1 h2 => by
    simp only [hset_s, upd]
    rcases (by omega : s = 9 ∨ s = 10 ∨ s = 11 ∨ s = 12 ∨ s = 13) with rfl | rfl | rfl | rfl | rfl <;> rfl
  refine ⟨_, rfl, ⟨⟨by rw [sl _ (by decide) (by decide)]; exact r1, by rw [sl _ (by decide) (by decide)]; exact r2, by rw [sl _ (by decide) (by decide)]; exact r3, by rw [sl _ (by decide) (by decide)]; exact r4⟩, fun w hw => ?_, fun w m hw hm => ?_, fun d k hd h2 hk => ?_, fun j hj => ?_⟩, sl 13 (by decide) (by decide), fun i hi => ?_⟩
  · rw [fr _ (by omega)]
    have q : hk (b' + 1) w = h (b + 1) w := c2 0 (by decide) w hw
    rw [q]; exact r5 w hw
  · rw [fr _ (by omega)]
    have q : hk (b' + 2) (30 * w + m) = h (b + 2) (30 * w + m) := c2 1 (by decide) (30 * w + m) (by show 30 * w + m < 120; omega)
    rw [q]; exact r6 w m hw hm
  · rw [fr _ (by omega)]
    have e : sT.getD (2 + k + 1) 0 = 10 := by rcases (by omega : k = 0 ∨ k = 1 ∨ k = 2 ∨ k = 3 ∨ k = 4 ∨ k = 5) with rfl | rfl | rfl | rfl | rfl | rfl <;> rfl
    have q := c2 (2 + k) (by omega) d (by rw [e]; exact hd)
    rw [show b' + 1 + (2 + k) = b' + 3 + k by omega, show b + 1 + (2 + k) = b + 3 + k by omega] at q
    rw [q]; exact r7 d k hd h2 hk
  · rw [fr _ (by omega)]
    have q : hk (b' + 9) j = h (b + 9) j := c2 8 (by decide) j hj
    rw [q]; exact r8 j hj
  · rw [fr i (by omega), c1 i (by omega)]
/-- become: a copy, and its share -/
theorem a_become {b' : Nat} (S : FS a b p) (B' : BS b') (hne : b' ≠ b) (R : RepS h b' z) (F : WF z) : ∃ h' : HP, f_A_become h a b' = some h' ∧ RepA h' a b p z ∧ h' b 13 = h b' 13 ∧ ∀ i, ¬ own b p i → h' i = h i := by
  have hp : p = 184 ∨ p = 188 := S.ps
  have hb := S.bs.1
  obtain ⟨h1, g1, g2, g3, g4⟩ := s_copy B' S.bs hne R
  obtain ⟨h2, q1, q2, q3⟩ := a_anew S g2 F
  unfold f_A_become
  rw [S.f0, S.f1, g1, Option.bind_some, q1, Option.bind_some]
  exact ⟨h2, rfl, q2, by rw [q3 b (by omega)]; exact g3, fun i hi => by rw [q3 i (fun q => hi (Or.inr q)), g4 i (fun q => hi (Or.inl q))]⟩
end COPY
