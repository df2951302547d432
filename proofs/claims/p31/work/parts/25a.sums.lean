/-! sums -/
theorem sm_last (G : Nat → Int) (n i : Nat) : sm G (n + 1) i = sm G n i + G (i + n) := by
  rw [sm_app]
  show sm G n i + (G (i + n) + 0) = _
  omega
theorem sm_upd (f : Nat → Int) (k : Nat) (v : Int) : ∀ n i : Nat, sm (uI f k v) n i = sm f n i + (if i ≤ k ∧ k < i + n then v - f k else 0) := by
  intro n
  induction n with
  | zero =>
    intro i
    rw [if_neg (by omega)]
    rfl
  | succ n ih =>
    intro i
    show uI f k v i + sm (uI f k v) n (i + 1) = (f i + sm f n (i + 1)) + _
    rw [ih (i + 1)]
    by_cases c : i = k
    · subst c
      rw [uI_s, if_neg (by omega), if_pos (by omega)]
      omega
    · rw [uI_n _ _ c]
      by_cases c2 : i + 1 ≤ k ∧ k < i + 1 + n
      · rw [if_pos c2, if_pos (by omega)]
        omega
      · rw [if_neg c2, if_neg (by omega)]
        omega
theorem sm_add (G H : Nat → Int) : ∀ n i : Nat, sm (fun k => G k + H k) n i = sm G n i + sm H n i := by
  intro n
  induction n with
  | zero => intro i; rfl
  | succ n ih =>
    intro i
    show G i + H i + sm (fun k => G k + H k) n (i + 1) = (G i + sm G n (i + 1)) + (H i + sm H n (i + 1))
    rw [ih]
    omega
theorem sm_const (c : Int) : ∀ n i : Nat, sm (fun _ => c) n i = n * c := by
  intro n
  induction n with
  | zero => intro i; show (0 : Int) = ((0 : Nat) : Int) * c; rw [Int.natCast_zero, Int.zero_mul]
  | succ n ih =>
    intro i
    show c + sm (fun _ => c) n (i + 1) = _
    rw [ih, Int.natCast_succ, Int.add_mul, Int.one_mul]
    omega
theorem sm_mono {G H : Nat → Int} : ∀ n i : Nat, (∀ k, i ≤ k → k < i + n → G k ≤ H k) → sm G n i ≤ sm H n i := by
  intro n
  induction n with
  | zero => intro i _; exact Int.le_refl _
  | succ n ih =>
    intro i h
    have h1 := h i (by omega) (by omega)
    have h2 := ih (i + 1) (fun k a b => h k (by omega) (by omega))
    show G i + sm G n (i + 1) ≤ H i + sm H n (i + 1)
    omega
theorem sm_one {G : Nat → Int} {k0 : Nat} : ∀ n i : Nat, i ≤ k0 → k0 < i + n → (∀ k, i ≤ k → k < i + n → k ≠ k0 → G k = 0) → sm G n i = G k0 := by
  intro n
  induction n with
  | zero => intro i h1 h2; omega
  | succ n ih =>
    intro i h1 h2 h
    show G i + sm G n (i + 1) = G k0
    by_cases c : i = k0
    · subst c
      rw [sm_0 G n (i + 1) (fun k a b => h k (by omega) (by omega) (by omega))]
      omega
    · rw [ih (i + 1) (by omega) (by omega) (fun k a b => h k (by omega) (by omega)), h i (by omega) (by omega) c]
      omega
/-- at most one of them is there -/
theorem sm_le1 {P : Nat → Prop} [DecidablePred P] {n i : Nat} (h : ∀ a b, i ≤ a → a < i + n → i ≤ b → b < i + n → P a → P b → a = b) : sm (fun k => if P k then 1 else 0) n i ≤ 1 := by
  by_cases c : ∃ a, i ≤ a ∧ a < i + n ∧ P a
  · obtain ⟨a, a1, a2, a3⟩ := c
    rw [sm_one (k0 := a) n i a1 a2 (fun k k1 k2 k3 => if_neg (fun q => k3 (h k a k1 k2 a1 a2 q a3)))]
    rw [if_pos a3]
    exact Int.le_refl _
  · rw [sm_0 _ n i (fun k k1 k2 => if_neg (fun q => c ⟨k, k1, k2, q⟩))]
    decide
theorem sm_swap (f : Nat → Nat → Int) (k j : Nat) : ∀ n i : Nat, sm (fun m => sm (fun d => f m d) k j) n i = sm (fun d => sm (fun m => f m d) n i) k j := by
  intro n
  induction n with
  | zero =>
    intro i
    show (0 : Int) = sm (fun d => 0) k j
    rw [sm_0 _ k j (fun _ _ _ => rfl)]
  | succ n ih =>
    intro i
    show sm (fun d => f i d) k j + sm (fun m => sm (fun d => f m d) k j) n (i + 1) = sm (fun d => f i d + sm (fun m => f m d) n (i + 1)) k j
    rw [ih, sm_add]
/-- how many of a stretch lie in a row -/
theorem sm_cnt {a l : Int} {L : Nat} (h0 : 0 ≤ a) (h1 : 0 ≤ l) (h2 : a + l ≤ L) : sm (fun m => if a ≤ (m : Int) ∧ (m : Int) < a + l then 1 else 0) L 0 = l := by
  obtain ⟨a, rfl⟩ := Int.eq_ofNat_of_zero_le h0
  obtain ⟨l, rfl⟩ := Int.eq_ofNat_of_zero_le h1
  obtain ⟨r, rfl⟩ : ∃ r, L = (a + l) + r := ⟨L - (a + l), by omega⟩
  rw [sm_app, sm_app, sm_0 _ a 0 (fun k _ k2 => if_neg (by omega)), sm_congr (G' := fun _ => 1) l (0 + a) (fun k k1 k2 => if_pos (by omega)), sm_const, sm_0 _ r _ (fun k k1 _ => if_neg (by omega))]
  omega
/-- a sum over pairs that don't care for their order is even -/
theorem sm_even (f : Nat → Nat → Int) (hs : ∀ a b, f a b = f b a) (h0 : ∀ a, f a a = 0) : ∀ n : Nat, ∃ k : Int, sm (fun d => sm (fun e => f d e) n 0) n 0 = 2 * k := by
  intro n
  induction n with
  | zero => exact ⟨0, rfl⟩
  | succ n ih =>
    obtain ⟨k, hk⟩ := ih
    refine ⟨k + sm (fun d => f d n) n 0, ?_⟩
    rw [sm_last, sm_congr (G' := fun d => sm (fun e => f d e) n 0 + f d n) n 0 (fun d _ _ => by rw [sm_last, Nat.zero_add]), sm_add, hk, sm_last, Nat.zero_add, h0, sm_congr (G := fun e => f n e) (G' := fun d => f d n) n 0 (fun d _ _ => hs n d)]
    omega
