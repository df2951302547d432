/-! what the pitches keep: they lie apart, metres add up, rows of free metres, neighbours -/
section PITCHES
variable {z : Nat → Int}
theorem free_both (F : WF z) {w : Nat} (hw : (w : Int) < z 184) : freZ z w = z (31 * w) - frwZ z w := by
  have hn := F.2.1
  have hwl := F.1
  have hL := F.2.2.2.1 w (by omega)
  have e1 : ∀ m : Nat, (if atZ z w m = -1 then (1 : Int) else 0) + sm (fun d => if cov z w m d then 1 else 0) (z 185).toNat 0 = 1 := by
    intro m
    rcases atZ_is F (w : Int) (m : Int) with ⟨q1, q2⟩ | ⟨k, k1, k2, k3⟩
    · rw [if_pos q1, sm_0 _ _ 0 (fun k _ k2 => if_neg (q2 k (by omega)))]
      omega
    · rw [if_neg (by omega), sm_one (k0 := k) _ 0 (by omega) (by omega) (fun d _ d2 d3 => if_neg (fun q => d3 (cov_one F (by omega) (by omega) k1 q k3)))]
      rw [if_pos k3]
      omega
  have e2 : freZ z w + sm (fun m => sm (fun d => if cov z w m d then 1 else 0) (z 185).toNat 0) (z (31 * w)).toNat 0 = z (31 * w) := by
    unfold freZ
    rw [← sm_add, sm_congr (G' := fun _ => 1) _ 0 (fun m _ _ => e1 m), sm_const]
    omega
  have e3 : sm (fun m : Nat => sm (fun d => if cov z w m d then 1 else 0) (z 185).toNat 0) (z (31 * w)).toNat 0 = frwZ z w := by
    rw [sm_swap (fun m d => if cov z w m d then 1 else 0)]
    unfold frwZ
    refine sm_congr _ 0 (fun d _ d2 => ?_)
    have hd : d < 10 := by omega
    have hS := F.2.2.2.2.2.2.1 d hd (by omega)
    have hD := F.2.2.2.2.2.1 d hd
    by_cases c : z (127 + 6 * d) = w
    · rw [if_pos c]
      rw [sm_congr (G' := fun m : Nat => if z (128 + 6 * d) ≤ (m : Int) ∧ (m : Int) < z (128 + 6 * d) + z (125 + 6 * d) then 1 else 0) _ 0 (fun m _ _ => by
        by_cases q : z (128 + 6 * d) ≤ (m : Int) ∧ (m : Int) < z (128 + 6 * d) + z (125 + 6 * d)
        · rw [if_pos q, if_pos ⟨c, q.1, q.2⟩]
        · rw [if_neg q, if_neg (fun g => q ⟨g.2.1, g.2.2⟩)])]
      rw [c, show ((w : Int)).toNat = w by omega] at hS
      exact sm_cnt (by omega) (by omega) (by omega)
    · rw [if_neg c, sm_0 _ _ 0 (fun m _ _ => if_neg (fun q => c q.1))]
  rw [e3] at e2
  omega
theorem row_le2 (z : Nat → Int) (w : Int) : ∀ (n m : Nat) (b s r : Int), 0 ≤ r → (lrF z w n m b s r).1 ≤ max b (r + sm (fun k => if atZ z w k = -1 then 1 else 0) n m) := by
  intro n
  induction n with
  | zero =>
    intro m b s r hr
    show b ≤ max b (r + 0)
    omega
  | succ n ih =>
    intro m b s r hr
    have hp : ∀ (n i : Nat), 0 ≤ sm (fun k => if atZ z w k = -1 then (1 : Int) else 0) n i := by
      intro n
      induction n with
      | zero => intro i; exact Int.le_refl _
      | succ n ih2 =>
        intro i
        have := ih2 (i + 1)
        show 0 ≤ (if atZ z w i = -1 then (1 : Int) else 0) + _
        split <;> omega
    have h1 := hp n (m + 1)
    rw [lrF]
    have e : ((m : Int) + 1) = ((m + 1 : Nat) : Int) := by omega
    rw [e]
    show _ ≤ max b (r + ((if atZ z w m = -1 then 1 else 0) + sm (fun k => if atZ z w k = -1 then 1 else 0) n (m + 1)))
    by_cases c : atZ z w m = -1
    · have er : runZ z w m r = r + 1 := if_pos c
      rw [er, if_pos c]
      have g := ih (m + 1) (if b < r + 1 then r + 1 else b) (if b < r + 1 then (m : Int) - (r + 1) + 1 else s) (r + 1) (by omega)
      by_cases c2 : b < r + 1
      · rw [if_pos c2, if_pos c2] at g ⊢
        omega
      · rw [if_neg c2, if_neg c2] at g ⊢
        omega
    · have er : runZ z w m r = 0 := if_neg c
      rw [er, if_neg c]
      have g := ih (m + 1) (if b < 0 then 0 else b) (if b < 0 then (m : Int) - 0 + 1 else s) 0 (by omega)
      by_cases c2 : b < 0
      · rw [if_pos c2, if_pos c2] at g ⊢
        omega
      · rw [if_neg c2, if_neg c2] at g ⊢
        omega
theorem row_ge2 (z : Nat → Int) (w : Int) : ∀ (n m : Nat) (b s r : Int), 0 ≤ r → 0 ≤ b → b ≤ (lrF z w n m b s r).1 ∧ (0 < sm (fun k => if atZ z w k = -1 then 1 else 0) n m → 1 ≤ (lrF z w n m b s r).1) := by
  intro n
  induction n with
  | zero =>
    intro m b s r hr hb
    exact ⟨Int.le_refl _, fun h => by
      have h : (0 : Int) < 0 := h
      omega⟩
  | succ n ih =>
    intro m b s r hr hb
    rw [lrF]
    have e : ((m : Int) + 1) = ((m + 1 : Nat) : Int) := by omega
    rw [e]
    show _ ∧ (0 < (if atZ z w m = -1 then 1 else 0) + sm (fun k => if atZ z w k = -1 then 1 else 0) n (m + 1) → _)
    by_cases c : atZ z w m = -1
    · have er : runZ z w m r = r + 1 := if_pos c
      rw [er]
      have g := ih (m + 1) (if b < r + 1 then r + 1 else b) (if b < r + 1 then (m : Int) - (r + 1) + 1 else s) (r + 1) (by omega) (by split <;> omega)
      have g1 := g.1
      by_cases c2 : b < r + 1
      · rw [if_pos c2, if_pos c2] at g1 ⊢
        exact ⟨by omega, fun _ => by omega⟩
      · rw [if_neg c2, if_neg c2] at g1 ⊢
        exact ⟨by omega, fun _ => by omega⟩
    · have er : runZ z w m r = 0 := if_neg c
      rw [er, if_neg c, if_neg (by omega), if_neg (by omega)]
      have g := ih (m + 1) b s 0 (by omega) hb
      exact ⟨g.1, fun h => g.2 (by omega)⟩
theorem row_at2 (z : Nat → Int) (w : Int) : ∀ (n m : Nat) (b s r : Int), 0 ≤ r → r ≤ m → 0 ≤ b → (b = 0 → s = -1) → (0 < b → 0 ≤ s) → ((lrF z w n m b s r).1 = 0 → (lrF z w n m b s r).2 = -1) ∧ (0 < (lrF z w n m b s r).1 → 0 ≤ (lrF z w n m b s r).2) := by
  intro n
  induction n with
  | zero => intro m b s r _ _ _ h1 h2; exact ⟨h1, h2⟩
  | succ n ih =>
    intro m b s r hr hm hb h1 h2
    rw [lrF]
    have e : ((m : Int) + 1) = ((m + 1 : Nat) : Int) := by omega
    rw [e]
    by_cases c : atZ z w m = -1
    · have er : runZ z w m r = r + 1 := if_pos c
      rw [er]
      by_cases c2 : b < r + 1
      · rw [if_pos c2, if_pos c2]
        exact ih (m + 1) _ _ _ (by omega) (by omega) (by omega) (fun q => by omega) (fun _ => by omega)
      · rw [if_neg c2, if_neg c2]
        exact ih (m + 1) _ _ _ (by omega) (by omega) hb h1 h2
    · have er : runZ z w m r = 0 := if_neg c
      rw [er, if_neg (by omega), if_neg (by omega)]
      exact ih (m + 1) _ _ _ (by omega) (by omega) hb h1 h2
theorem row_free (z : Nat → Int) (w : Nat) : (0 ≤ (rowZ z w).1 ∧ (rowZ z w).1 ≤ freZ z w) ∧ ((rowZ z w).2 = -1 ↔ freZ z w = 0) := by
  have a := row_le2 z w (z (31 * w)).toNat 0 0 (-1) 0 (Int.le_refl _)
  have b := row_ge2 z w (z (31 * w)).toNat 0 0 (-1) 0 (Int.le_refl _) (Int.le_refl _)
  have c := row_at2 z w (z (31 * w)).toNat 0 0 (-1) 0 (Int.le_refl _) (by omega) (Int.le_refl _) (fun _ => rfl) (fun h => by omega)
  have a : (rowZ z w).1 ≤ max 0 (0 + freZ z w) := a
  have b : 0 ≤ (rowZ z w).1 ∧ (0 < freZ z w → 1 ≤ (rowZ z w).1) := b
  have c : ((rowZ z w).1 = 0 → (rowZ z w).2 = -1) ∧ (0 < (rowZ z w).1 → 0 ≤ (rowZ z w).2) := c
  have h0 : 0 ≤ freZ z w := by
    have : ∀ (n i : Nat), 0 ≤ sm (fun k : Nat => if atZ z w k = -1 then (1 : Int) else 0) n i := by
      intro n
      induction n with
      | zero => intro i; exact Int.le_refl _
      | succ n ih2 =>
        intro i
        have := ih2 (i + 1)
        show 0 ≤ (if atZ z w i = -1 then (1 : Int) else 0) + _
        split <;> omega
    exact this _ _
  refine ⟨⟨b.1, by omega⟩, fun q => ?_, fun q => c.1 (by omega)⟩
  by_cases c2 : 0 < (rowZ z w).1
  · have := c.2 c2
    omega
  · by_cases c3 : 0 < freZ z w
    · have := b.2 c3
      omega
    · omega
theorem nbr_le (F : WF z) {d : Nat} (hd : d < 10) (h2 : (d : Int) < z 185) : nbrZ z d ≤ 2 := by
  have hn := F.2.1
  have one : ∀ (a b : Nat), (a : Int) < z 185 → (b : Int) < z 185 → z (127 + 6 * a) ≠ -1 → z (127 + 6 * a) = z (127 + 6 * b) → (z (128 + 6 * a) = z (128 + 6 * b) ∨ z (128 + 6 * a) + z (125 + 6 * a) = z (128 + 6 * b) + z (125 + 6 * b)) → a = b := by
    intro a b ha hb s1 s2 s3
    by_cases c : a = b
    · exact c
    · exfalso
      have q := F.2.2.2.2.2.2.2.1 a b (by omega) (by omega) c ha hb s1 s2
      have f1 := (F.2.2.2.2.2.1 a (by omega)).2.1 ha
      have f2 := (F.2.2.2.2.2.1 b (by omega)).2.1 hb
      omega
  have r := sm_le1 (P := fun e => (z (127 + 6 * d) ≠ -1 ∧ z (127 + 6 * d) = z (127 + 6 * e)) ∧ z (128 + 6 * d) + z (125 + 6 * d) = z (128 + 6 * e)) (n := (z 185).toNat) (i := 0) (fun a b _ a2 _ b2 p q => one a b (by omega) (by omega) (by rw [← p.1.2]; exact p.1.1) (by rw [← p.1.2, ← q.1.2]) (Or.inl (by rw [← p.2, ← q.2])))
  have l := sm_le1 (P := fun e => (z (127 + 6 * d) ≠ -1 ∧ z (127 + 6 * d) = z (127 + 6 * e)) ∧ z (128 + 6 * e) + z (125 + 6 * e) = z (128 + 6 * d)) (n := (z 185).toNat) (i := 0) (fun a b _ a2 _ b2 p q => one a b (by omega) (by omega) (by rw [← p.1.2]; exact p.1.1) (by rw [← p.1.2, ← q.1.2]) (Or.inr (by rw [p.2, q.2])))
  have m : nbrZ z d ≤ sm (fun e => (if (z (127 + 6 * d) ≠ -1 ∧ z (127 + 6 * d) = z (127 + 6 * e)) ∧ z (128 + 6 * d) + z (125 + 6 * d) = z (128 + 6 * e) then (1 : Int) else 0) + (if (z (127 + 6 * d) ≠ -1 ∧ z (127 + 6 * d) = z (127 + 6 * e)) ∧ z (128 + 6 * e) + z (125 + 6 * e) = z (128 + 6 * d) then 1 else 0)) (z 185).toNat 0 := by
    unfold nbrZ
    refine sm_mono _ 0 (fun e _ _ => ?_)
    by_cases c : nbr z d e
    · rw [if_pos c]
      rcases c with ⟨c1, c2, c3 | c3⟩
      · rw [if_pos ⟨⟨c1, c2⟩, c3⟩]
        split <;> omega
      · rw [if_pos (c := _ ∧ z (128 + 6 * e) + z (125 + 6 * e) = z (128 + 6 * d)) ⟨⟨c1, c2⟩, c3⟩]
        split <;> omega
    · rw [if_neg c]
      split <;> split <;> omega
  rw [sm_add] at m
  omega
theorem riv_nbr (z : Nat → Int) (d : Nat) : rivZ z d ≤ nbrZ z d := by
  unfold rivZ nbrZ
  refine sm_mono _ 0 (fun e _ _ => ?_)
  by_cases c : nbr z d e ∧ z (124 + 6 * d) = z (124 + 6 * e)
  · rw [if_pos c, if_pos c.1]
    exact Int.le_refl _
  · rw [if_neg c]
    split <;> omega
theorem nbr_0 {d : Nat} (h : z (127 + 6 * d) = -1) : nbrZ z d = 0 := by
  unfold nbrZ
  exact sm_0 _ _ 0 (fun e _ _ => if_neg (fun q => q.1 h))
theorem nbr_sym {d e : Nat} (h : nbr z d e) : nbr z e d := by
  obtain ⟨h1, h2, h3⟩ := h
  exact ⟨by rw [← h2]; exact h1, h2.symm, h3.symm⟩
theorem riv_even (F : WF z) : 2 * (rvtZ z / 2) = rvtZ z := by
  have hn := F.2.1
  obtain ⟨k, hk⟩ := sm_even (fun d e => if (nbr z d e ∧ z (124 + 6 * d) = z (124 + 6 * e)) ∧ d ≠ e then 1 else 0) (fun a b => by
    by_cases c : (nbr z a b ∧ z (124 + 6 * a) = z (124 + 6 * b)) ∧ a ≠ b
    · rw [if_pos c, if_pos ⟨⟨nbr_sym c.1.1, c.1.2.symm⟩, fun q => c.2 q.symm⟩]
    · rw [if_neg c, if_neg (fun q => c ⟨⟨nbr_sym q.1.1, q.1.2.symm⟩, fun g => q.2 g.symm⟩)]) (fun a => if_neg (fun q => q.2 rfl)) (z 185).toNat
  have e : rvtZ z = sm (fun d => sm (fun e => if (nbr z d e ∧ z (124 + 6 * d) = z (124 + 6 * e)) ∧ d ≠ e then 1 else 0) (z 185).toNat 0) (z 185).toNat 0 := by
    unfold rvtZ
    refine sm_congr _ 0 (fun d _ d2 => ?_)
    unfold rivZ
    refine sm_congr _ 0 (fun e _ e2 => ?_)
    by_cases c : nbr z d e ∧ z (124 + 6 * d) = z (124 + 6 * e)
    · rw [if_pos c, if_pos ⟨c, fun q => by
        subst q
        have f := (F.2.2.2.2.2.1 d (by omega)).2.1 (by omega)
        have := c.1.2.2
        omega⟩]
    · rw [if_neg c, if_neg (fun q => c q.1)]
  rw [e, hk]
  omega
end PITCHES
