/-! copies of rows and states -/
def czR (h hk : HP) (b b' j : Nat) : Prop := (∀ i, ¬ (b' + 1 ≤ i ∧ i < b' + 1 + j) → hk i = h i) ∧ ∀ i, i < j → ∀ m, m < sT.getD (i + 1) 0 → hk (b' + 1 + i) m = h (b + 1 + i) m
section COPY
variable {h : HP} {a b p : Nat} {z : Nat → Int}
theorem czR.step {hk : HP} {b' j n : Nat} (C : czR h hk b b' j) (hb : b + 10 ≤ b' ∨ b' + 10 ≤ b) (hj : j < 9) (hn : n = sT.getD (j + 1) 0) : czR h (hrow hk (b' + 1 + j) (cpy0 (hk (b + 1 + j)) (hk (b' + 1 + j)) n)) b b' (j + 1) := by
  obtain ⟨c1, c2⟩ := C
  refine ⟨fun i hi => ?_, fun i hi m hm => ?_⟩
  · rw [hrow_n _ _ (by omega)]; exact c1 i (by omega)
  · by_cases q : i = j
    · rw [q, hrow_s]
      unfold cpy0
      rw [if_pos (by rw [hn, ← q]; exact hm), c1 (b + 1 + j) (by omega)]
    · rw [hrow_n _ _ (by omega)]; exact c2 i (by omega) m hm
theorem s_copy {b' : Nat} (B : BS b) (B' : BS b') (hne : b ≠ b') (R : RepS h b z) : ∃ h' : HP, f_S_copy h b' b = some h' ∧ RepS h' b' z ∧ h' b' 13 = h b 13 ∧ ∀ i, ¬ (b' ≤ i ∧ i < b' + 10) → h' i = h i := by
  have hb : b + 10 ≤ b' ∨ b' + 10 ≤ b := by
    obtain ⟨x1, x2⟩ := B
    obtain ⟨y1, y2⟩ := B'
    omega
  obtain ⟨⟨r1, r2, r3, r4⟩, r5, r6, r7, r8⟩ := R
  unfold f_S_copy
  simp only [B.fld, B'.fld, Option.bind_some]
  have C0 : czR h h b b' 0 := ⟨fun i _ => rfl, fun i hi => absurd hi (by omega)⟩
  have C := ((((((((C0.step hb (by decide) (n := 4) rfl).step hb (by decide) (n := 120) rfl).step hb (by decide) (n := 10) rfl).step hb (by decide) (n := 10) rfl).step hb (by decide) (n := 10) rfl).step hb (by decide) (n := 10) rfl).step hb (by decide) (n := 10) rfl).step hb (by decide) (n := 10) rfl).step hb (by decide) (n := 6) rfl
  revert C
  generalize hrow (hrow (hrow (hrow (hrow (hrow (hrow (hrow (hrow h _ _) _ _) _ _) _ _) _ _) _ _) _ _) _ _) _ _ = hk
  intro C
  obtain ⟨c1, c2⟩ := C
  have nb : b ≠ b' := hne
  have kb : hk b = h b := c1 b (by omega)
  have kb' : hk b' = h b' := c1 b' (by omega)
  have rd : ∀ (g : HP) (s v) , hset g b' s v b = g b := fun g s v => hset_n _ _ _ nb
  simp only [rd, kb]
  have fr : ∀ i, i ≠ b' → (hset (hset (hset (hset (hset hk b' 9 (h b 9)) b' 10 (h b 10)) b' 11 (h b 11)) b' 12 (h b 12)) b' 13 (h b 13)) i = hk i := fun i hi => by
    rw [hset_n _ _ _ hi, hset_n _ _ _ hi, hset_n _ _ _ hi, hset_n _ _ _ hi, hset_n _ _ _ hi]
  have sl : ∀ s, 9 ≤ s → s ≤ 13 → (hset (hset (hset (hset (hset hk b' 9 (h b 9)) b' 10 (h b 10)) b' 11 (h b 11)) b' 12 (h b 12)) b' 13 (h b 13)) b' s = h b s := fun s h1 h2 => by
    simp only [hset_s, upd]
    rcases (by omega : s = 9 ∨ s = 10 ∨ s = 11 ∨ s = 12 ∨ s = 13) with rfl | rfl | rfl | rfl | rfl <;> rfl
  refine ⟨_, rfl, ⟨⟨by rw [sl _ (by decide) (by decide)]; exact r1, by rw [sl _ (by decide) (by decide)]; exact r2, by rw [sl _ (by decide) (by decide)]; exact r3, by rw [sl _ (by decide) (by decide)]; exact r4⟩, fun w hw => ?_, fun w m hw hm => ?_, fun d k hd h2 hk => ?_, fun j hj => ?_⟩, sl 13 (by decide) (by decide), fun i hi => ?_⟩
  · rw [fr _ (by omega)]
    have q : hk (b' + 1) w = h (b + 1) w := c2 0 (by decide) w hw
    rw [q]; exact r5 w hw
  · rw [fr _ (by omega)]
    have q : hk (b' + 2) (30 * w + m) = h (b + 2) (30 * w + m) := c2 1 (by decide) (30 * w + m) (by show 30 * w + m < 120; omega)
    rw [q]; exact r6 w m hw hm
  · rw [fr _ (by omega)]
    have e : sT.getD (2 + k + 1) 0 = 10 := by rcases (by omega : k = 0 ∨ k = 1 ∨ k = 2 ∨ k = 3 ∨ k = 4 ∨ k = 5) with rfl | rfl | rfl | rfl | rfl | rfl <;> rfl
    have q := c2 (2 + k) (by omega) d (by rw [e]; exact hd)
    rw [show b' + 1 + (2 + k) = b' + 3 + k by omega, show b + 1 + (2 + k) = b + 3 + k by omega] at q
    rw [q]; exact r7 d k hd h2 hk
  · rw [fr _ (by omega)]
    have q : hk (b' + 9) j = h (b + 9) j := c2 8 (by decide) j hj
    rw [q]; exact r8 j hj
  · rw [fr i (by omega), c1 i (by omega)]
/-- become: a copy, and its share -/
theorem a_become {b' : Nat} (S : FS a b p) (B' : BS b') (hne : b' ≠ b) (R : RepS h b' z) (F : WF z) : ∃ h' : HP, f_A_become h a b' = some h' ∧ RepA h' a b p z ∧ h' b 13 = h b' 13 ∧ ∀ i, ¬ own b p i → h' i = h i := by
  have hp : p = 184 ∨ p = 188 := S.ps
  have hb := S.bs.1
  obtain ⟨h1, g1, g2, g3, g4⟩ := s_copy B' S.bs hne R
  obtain ⟨h2, q1, q2, q3⟩ := a_anew S g2 F
  unfold f_A_become
  rw [S.f0, S.f1, g1, Option.bind_some, q1, Option.bind_some]
  exact ⟨h2, rfl, q2, by rw [q3 b (by omega)]; exact g3, fun i hi => by rw [q3 i (fun q => hi (Or.inr q)), g4 i (fun q => hi (Or.inl q))]⟩
theorem m_copy1 {a a' : Nat} (hne : a ≠ a') : ∀ (n x fu : Nat) (h : HP), x + n = 196 → n < fu → True → ∃ h' : HP, f_M_copy_2 fu a a' (iI x) h = some h' ∧ (∀ i, i ≠ a' → h' i = h i) ∧ (∀ k, (k < 0 + x ∨ 0 + 196 ≤ k) → h' a' k = h a' k) ∧ (∀ k, x ≤ k → k < 196 → h' a' (0 + k) = h a (0 + k)) := by
  intro n
  induction n with
  | zero =>
    intro x fu h hx hfu H
    obtain ⟨fu, rfl⟩ : ∃ k, fu = k + 1 := ⟨fu - 1, by omega⟩
    refine ⟨h, ?_, fun _ _ => rfl, fun _ _ => rfl, fun k h1 h2 => absurd h1 (by omega)⟩
    rw [f_M_copy_2, lI196, tLe (by omega) (by omega) (by omega) (by omega), if_pos (by omega)]
    skip
  | succ n ih =>
    intro x fu h hx hfu H
    obtain ⟨fu, rfl⟩ : ∃ k, fu = k + 1 := ⟨fu - 1, by omega⟩
    have c1 : (iI (x : Int)).toNatClampNeg = x := by rw [iI_cl (by omega) (by omega)]; omega
    obtain ⟨h', g1, g2, g3, g4⟩ := ih (x + 1) fu (hset h a' (0 + x) (h a (0 + x))) (by omega) (by omega) (trivial)
    refine ⟨h', ?_, fun i hi => by rw [g2 i hi, hset_n _ _ _ hi], fun k hk => by rw [g3 k (by omega), hset_s, upd_n _ _ (by omega)], fun k h1 h2 => ?_⟩
    · rw [f_M_copy_2, lI196, tLe (by omega) (by omega) (by omega) (by omega), if_neg (by omega), iI_ib (by omega) (by omega) (by omega), if_pos rfl, if_pos rfl, c1, Option.bind_some, lI1, iI_add, show (x : Int) + 1 = ((x + 1 : Nat) : Int) by omega]
      first
      | exact g1
      | (rw [show 0 + x = x by omega, show 0 + x = x by omega] at g1; exact g1)
      | (rw [show 0 + x = x by omega] at g1; exact g1)
      | (rw [show 0 + x = x by omega] at g1; exact g1)
    · by_cases cx : k = x
      · rw [cx, g3 (0 + x) (by omega), hset_s, upd_s]
      · rw [g4 k (by omega) h2]
        rw [hset_n _ _ _ hne]
theorem m_copy {a' : Nat} (hne : a ≠ a') (R : RepM h a z) : ∃ h' : HP, f_M_copy h a a' = some h' ∧ RepM h' a' z ∧ ∀ i, i ≠ a' → h' i = h i := by
  obtain ⟨h', g1, g2, g3, g4⟩ := m_copy1 (a := a) (a' := a') hne 196 0 4096 h (by omega) (by omega) trivial
  unfold f_M_copy
  refine ⟨h', g1, fun k hk => ?_, g2⟩
  have := g4 k (by omega) hk
  rw [show 0 + k = k by omega] at this
  rw [this]; exact R k hk
theorem m_rem52 {c : Nat} (hc : c < 14) : ∀ (n x fu : Nat) (h : HP), x + n = 196 → n < fu → h 200 5 = iI c → ∃ h' : HP, f_M_remember_52 fu 200 (iI x) h = some (hset h' 200 5 (iI ((c : Int) + 1))) ∧ (∀ i, i ≠ 204 → h' i = h i) ∧ (∀ k, (k < 196 * c + x ∨ 196 * c + 196 ≤ k) → h' 204 k = h 204 k) ∧ (∀ k, x ≤ k → k < 196 → h' 204 (196 * c + k) = h 201 (0 + k)) := by
  have f4 : fld 200 4 = 204 := rfl
  have f1 : fld 200 1 = 201 := rfl
  intro n
  induction n with
  | zero =>
    intro x fu h hx hfu H
    obtain ⟨fu, rfl⟩ : ∃ k, fu = k + 1 := ⟨fu - 1, by omega⟩
    refine ⟨h, ?_, fun _ _ => rfl, fun _ _ => rfl, fun k h1 h2 => absurd h1 (by omega)⟩
    rw [f_M_remember_52, lI196, tLe (by omega) (by omega) (by omega) (by omega), if_pos (by omega), H, lI1, iI_add, Option.bind_some]
    skip
  | succ n ih =>
    intro x fu h hx hfu H
    obtain ⟨fu, rfl⟩ : ∃ k, fu = k + 1 := ⟨fu - 1, by omega⟩
    have c1 : (iI (x : Int)).toNatClampNeg = x := by rw [iI_cl (by omega) (by omega)]; omega
    have c2 : (iI (196 * (c : Int) + (x : Int))).toNatClampNeg = 196 * c + x := by rw [iI_cl (by omega) (by omega)]; omega
    obtain ⟨h', g1, g2, g3, g4⟩ := ih (x + 1) fu (hset h 204 (196 * c + x) (h 201 (0 + x))) (by omega) (by omega) (by rw [hset_n _ _ _ (by decide)]; exact H)
    refine ⟨h', ?_, fun i hi => by rw [g2 i hi, hset_n _ _ _ hi], fun k hk => by rw [g3 k (by omega), hset_s, upd_n _ _ (by omega)], fun k h1 h2 => ?_⟩
    · rw [f_M_remember_52, lI196, tLe (by omega) (by omega) (by omega) (by omega), if_neg (by omega), H, iI_ib (by omega) (by omega) (by omega), if_pos rfl, iI_mul, iI_add, iI_ib (by omega) (by omega) (by omega), if_pos rfl, c1, c2, f4, f1, Option.bind_some, lI1, iI_add, show (x : Int) + 1 = ((x + 1 : Nat) : Int) by omega]
      first
      | exact g1
      | (rw [show 0 + x = x by omega, show 196 * c + x = x by omega] at g1; exact g1)
      | (rw [show 0 + x = x by omega] at g1; exact g1)
      | (rw [show 196 * c + x = x by omega] at g1; exact g1)
    · by_cases cx : k = x
      · rw [cx, g3 (196 * c + x) (by omega), hset_s, upd_s]
      · rw [g4 k (by omega) h2]
        rw [hset_n _ _ _ (by decide)]
theorem m_rem11 {c : Nat} (hc : c = 14) : ∀ (n x fu : Nat) (h : HP), x + n = 2548 → n < fu → h 200 5 = iI c → ∃ h' : HP, f_M_remember_11 fu 200 (iI x) h = f_M_remember_50 200 (hset h' 200 5 (iI ((c : Int) - 1))) ∧ (∀ i, i ≠ 204 → h' i = h i) ∧ (∀ k, (k < 0 + x ∨ 0 + 2548 ≤ k) → h' 204 k = h 204 k) ∧ (∀ k, x ≤ k → k < 2548 → h' 204 (0 + k) = h 204 (196 + k)) := by
  have f4 : fld 200 4 = 204 := rfl
  intro n
  induction n with
  | zero =>
    intro x fu h hx hfu H
    obtain ⟨fu, rfl⟩ : ∃ k, fu = k + 1 := ⟨fu - 1, by omega⟩
    refine ⟨h, ?_, fun _ _ => rfl, fun _ _ => rfl, fun k h1 h2 => absurd h1 (by omega)⟩
    rw [f_M_remember_11, lI2548, tLe (by omega) (by omega) (by omega) (by omega), if_pos (by omega), H, lI1, iI_sub, Option.bind_some]
    skip
  | succ n ih =>
    intro x fu h hx hfu H
    obtain ⟨fu, rfl⟩ : ∃ k, fu = k + 1 := ⟨fu - 1, by omega⟩
    have c1 : (iI (x : Int)).toNatClampNeg = x := by rw [iI_cl (by omega) (by omega)]; omega
    have c3 : (iI (196 + (x : Int))).toNatClampNeg = 196 + x := by rw [iI_cl (by omega) (by omega)]; omega
    obtain ⟨h', g1, g2, g3, g4⟩ := ih (x + 1) fu (hset h 204 (0 + x) (h 204 (196 + x))) (by omega) (by omega) (by rw [hset_n _ _ _ (by decide)]; exact H)
    refine ⟨h', ?_, fun i hi => by rw [g2 i hi, hset_n _ _ _ hi], fun k hk => by rw [g3 k (by omega), hset_s, upd_n _ _ (by omega)], fun k h1 h2 => ?_⟩
    · rw [f_M_remember_11, lI2548, tLe (by omega) (by omega) (by omega) (by omega), if_neg (by omega), lI196, iI_add, iI_ib (by omega) (by omega) (by omega), if_pos rfl, iI_ib (by omega) (by omega) (by omega), if_pos rfl, c1, c3, f4, Option.bind_some, lI1, iI_add, show (x : Int) + 1 = ((x + 1 : Nat) : Int) by omega]
      first
      | exact g1
      | (rw [show 196 + x = x by omega, show 0 + x = x by omega] at g1; exact g1)
      | (rw [show 196 + x = x by omega] at g1; exact g1)
      | (rw [show 0 + x = x by omega] at g1; exact g1)
    · by_cases cx : k = x
      · rw [cx, g3 (0 + x) (by omega), hset_s, upd_s]
      · rw [g4 k (by omega) h2]
        rw [hset_s, upd_n _ _ (by omega)]
theorem m_und33 {c : Nat} (hc : c < 14) : ∀ (n x fu : Nat) (h : HP), x + n = 196 → n < fu → h 200 5 = iI c → ∃ h' : HP, f_M_undo_33 fu 200 (iI x) h = some (iI c, h') ∧ (∀ i, i ≠ 201 → h' i = h i) ∧ (∀ k, (k < 0 + x ∨ 0 + 196 ≤ k) → h' 201 k = h 201 k) ∧ (∀ k, x ≤ k → k < 196 → h' 201 (0 + k) = h 204 (196 * c + k)) := by
  have f4 : fld 200 4 = 204 := rfl
  have f1 : fld 200 1 = 201 := rfl
  intro n
  induction n with
  | zero =>
    intro x fu h hx hfu H
    obtain ⟨fu, rfl⟩ : ∃ k, fu = k + 1 := ⟨fu - 1, by omega⟩
    refine ⟨h, ?_, fun _ _ => rfl, fun _ _ => rfl, fun k h1 h2 => absurd h1 (by omega)⟩
    rw [f_M_undo_33, lI196, tLe (by omega) (by omega) (by omega) (by omega), if_pos (by omega), H]
    skip
  | succ n ih =>
    intro x fu h hx hfu H
    obtain ⟨fu, rfl⟩ : ∃ k, fu = k + 1 := ⟨fu - 1, by omega⟩
    have c1 : (iI (x : Int)).toNatClampNeg = x := by rw [iI_cl (by omega) (by omega)]; omega
    have c2 : (iI (196 * (c : Int) + (x : Int))).toNatClampNeg = 196 * c + x := by rw [iI_cl (by omega) (by omega)]; omega
    obtain ⟨h', g1, g2, g3, g4⟩ := ih (x + 1) fu (hset h 201 (0 + x) (h 204 (196 * c + x))) (by omega) (by omega) (by rw [hset_n _ _ _ (by decide)]; exact H)
    refine ⟨h', ?_, fun i hi => by rw [g2 i hi, hset_n _ _ _ hi], fun k hk => by rw [g3 k (by omega), hset_s, upd_n _ _ (by omega)], fun k h1 h2 => ?_⟩
    · rw [f_M_undo_33, lI196, tLe (by omega) (by omega) (by omega) (by omega), if_neg (by omega), H, iI_mul, iI_add, iI_ib (by omega) (by omega) (by omega), if_pos rfl, iI_ib (by omega) (by omega) (by omega), if_pos rfl, c1, c2, f4, f1, Option.bind_some, lI1, iI_add, show (x : Int) + 1 = ((x + 1 : Nat) : Int) by omega]
      first
      | exact g1
      | (rw [show 196 * c + x = x by omega, show 0 + x = x by omega] at g1; exact g1)
      | (rw [show 196 * c + x = x by omega] at g1; exact g1)
      | (rw [show 0 + x = x by omega] at g1; exact g1)
    · by_cases cx : k = x
      · rw [cx, g3 (0 + x) (by omega), hset_s, upd_s]
      · rw [g4 k (by omega) h2]
        rw [hset_n _ _ _ (by decide)]
theorem m_sav26 {s : Nat} (hs : s < 2) : ∀ (n x fu : Nat) (h : HP), x + n = 196 → n < fu → True → ∃ h' : HP, f_M_save_26 fu 200 (iI (s : Int)) (iI x) h = some (h' 201 186, hset h' 206 s 1) ∧ (∀ i, i ≠ 205 → h' i = h i) ∧ (∀ k, (k < 196 * s + x ∨ 196 * s + 196 ≤ k) → h' 205 k = h 205 k) ∧ (∀ k, x ≤ k → k < 196 → h' 205 (196 * s + k) = h 201 (0 + k)) := by
  have f6 : fld 200 6 = 205 := rfl
  have f7 : fld 200 7 = 206 := rfl
  have f1 : fld 200 1 = 201 := rfl
  have cs : (iI (s : Int)).toNatClampNeg = s := by rw [iI_cl (by omega) (by omega)]; omega
  intro n
  induction n with
  | zero =>
    intro x fu h hx hfu H
    obtain ⟨fu, rfl⟩ : ∃ k, fu = k + 1 := ⟨fu - 1, by omega⟩
    refine ⟨h, ?_, fun _ _ => rfl, fun _ _ => rfl, fun k h1 h2 => absurd h1 (by omega)⟩
    rw [f_M_save_26, lI196, tLe (by omega) (by omega) (by omega) (by omega), if_pos (by omega), iI_ib (by omega) (by omega) (by omega), if_pos rfl, cs, f7, Option.bind_some, ib_186, if_pos rfl, cl_186, f1, hset_n _ _ _ (by decide)]
    skip
  | succ n ih =>
    intro x fu h hx hfu H
    obtain ⟨fu, rfl⟩ : ∃ k, fu = k + 1 := ⟨fu - 1, by omega⟩
    have c1 : (iI (x : Int)).toNatClampNeg = x := by rw [iI_cl (by omega) (by omega)]; omega
    have c2 : (iI (196 * (s : Int) + (x : Int))).toNatClampNeg = 196 * s + x := by rw [iI_cl (by omega) (by omega)]; omega
    obtain ⟨h', g1, g2, g3, g4⟩ := ih (x + 1) fu (hset h 205 (196 * s + x) (h 201 (0 + x))) (by omega) (by omega) (trivial)
    refine ⟨h', ?_, fun i hi => by rw [g2 i hi, hset_n _ _ _ hi], fun k hk => by rw [g3 k (by omega), hset_s, upd_n _ _ (by omega)], fun k h1 h2 => ?_⟩
    · rw [f_M_save_26, lI196, tLe (by omega) (by omega) (by omega) (by omega), if_neg (by omega), iI_ib (by omega) (by omega) (by omega), if_pos rfl, iI_mul, iI_add, iI_ib (by omega) (by omega) (by omega), if_pos rfl, c1, c2, f6, f1, Option.bind_some, lI1, iI_add, show (x : Int) + 1 = ((x + 1 : Nat) : Int) by omega]
      first
      | exact g1
      | (rw [show 0 + x = x by omega, show 196 * s + x = x by omega] at g1; exact g1)
      | (rw [show 0 + x = x by omega] at g1; exact g1)
      | (rw [show 196 * s + x = x by omega] at g1; exact g1)
    · by_cases cx : k = x
      · rw [cx, g3 (196 * s + x) (by omega), hset_s, upd_s]
      · rw [g4 k (by omega) h2]
        rw [hset_n _ _ _ (by decide)]
theorem m_res39 {s : Nat} (hs : s < 2) : ∀ (n x fu : Nat) (h : HP), x + n = 196 → n < fu → True → ∃ h' : HP, f_M_restore_39 fu 200 (iI (s : Int)) (iI x) h = some (h' 201 186, hset h' 200 5 0) ∧ (∀ i, i ≠ 201 → h' i = h i) ∧ (∀ k, (k < 0 + x ∨ 0 + 196 ≤ k) → h' 201 k = h 201 k) ∧ (∀ k, x ≤ k → k < 196 → h' 201 (0 + k) = h 205 (196 * s + k)) := by
  have f6 : fld 200 6 = 205 := rfl
  have f1 : fld 200 1 = 201 := rfl
  intro n
  induction n with
  | zero =>
    intro x fu h hx hfu H
    obtain ⟨fu, rfl⟩ : ∃ k, fu = k + 1 := ⟨fu - 1, by omega⟩
    refine ⟨h, ?_, fun _ _ => rfl, fun _ _ => rfl, fun k h1 h2 => absurd h1 (by omega)⟩
    rw [f_M_restore_39, lI196, tLe (by omega) (by omega) (by omega) (by omega), if_pos (by omega), Option.bind_some, ib_186, if_pos rfl, cl_186, f1, hset_n _ _ _ (by decide)]
    skip
  | succ n ih =>
    intro x fu h hx hfu H
    obtain ⟨fu, rfl⟩ : ∃ k, fu = k + 1 := ⟨fu - 1, by omega⟩
    have c1 : (iI (x : Int)).toNatClampNeg = x := by rw [iI_cl (by omega) (by omega)]; omega
    have c2 : (iI (196 * (s : Int) + (x : Int))).toNatClampNeg = 196 * s + x := by rw [iI_cl (by omega) (by omega)]; omega
    obtain ⟨h', g1, g2, g3, g4⟩ := ih (x + 1) fu (hset h 201 (0 + x) (h 205 (196 * s + x))) (by omega) (by omega) (trivial)
    refine ⟨h', ?_, fun i hi => by rw [g2 i hi, hset_n _ _ _ hi], fun k hk => by rw [g3 k (by omega), hset_s, upd_n _ _ (by omega)], fun k h1 h2 => ?_⟩
    · rw [f_M_restore_39, lI196, tLe (by omega) (by omega) (by omega) (by omega), if_neg (by omega), iI_mul, iI_add, iI_ib (by omega) (by omega) (by omega), if_pos rfl, iI_ib (by omega) (by omega) (by omega), if_pos rfl, c1, c2, f6, f1, Option.bind_some, lI1, iI_add, show (x : Int) + 1 = ((x + 1 : Nat) : Int) by omega]
      first
      | exact g1
      | (rw [show 196 * s + x = x by omega, show 0 + x = x by omega] at g1; exact g1)
      | (rw [show 196 * s + x = x by omega] at g1; exact g1)
      | (rw [show 0 + x = x by omega] at g1; exact g1)
    · by_cases cx : k = x
      · rw [cx, g3 (0 + x) (by omega), hset_s, upd_s]
      · rw [g4 k (by omega) h2]
        rw [hset_n _ _ _ (by decide)]
end COPY
