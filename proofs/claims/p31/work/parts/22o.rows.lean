/-! the longest free row, and where it begins -/
def runZ (z : Nat → Int) (w m r : Int) : Int := if atZ z w m = -1 then r + 1 else 0
def lrF (z : Nat → Int) (w : Int) : Nat → Int → Int → Int → Int → Int × Int
  | 0, _, b, s, _ => (b, s)
  | n + 1, m, b, s, r => lrF z w n (m + 1) (if b < runZ z w m r then runZ z w m r else b) (if b < runZ z w m r then m - runZ z w m r + 1 else s) (runZ z w m r)
def srF (z : Nat → Int) (w B : Int) : Nat → Int → Int → Int
  | 0, _, _ => -1
  | n + 1, m, r => if 0 < runZ z w m r ∧ runZ z w m r = B then m + 1 - runZ z w m r else srF z w B n (m + 1) (runZ z w m r)
theorem lrF_is (z : Nat → Int) (w : Int) : ∀ (n : Nat) (m b s r : Int), 0 ≤ b → b ≤ (lrF z w n m b s r).1 ∧ ((lrF z w n m b s r).1 = b → (lrF z w n m b s r).2 = s) ∧ (b < (lrF z w n m b s r).1 → srF z w (lrF z w n m b s r).1 n m r = (lrF z w n m b s r).2) := by
  intro n
  induction n with
  | zero => intro m b s r hb; exact ⟨Int.le_refl _, fun _ => rfl, fun h => by have : b < b := h; omega⟩
  | succ n ih =>
    intro m b s r hb
    by_cases c : b < runZ z w m r
    · have e : lrF z w (n + 1) m b s r = lrF z w n (m + 1) (runZ z w m r) (m - runZ z w m r + 1) (runZ z w m r) := by rw [lrF, if_pos c, if_pos c]
      rw [e]
      obtain ⟨i1, i2, i3⟩ := ih (m + 1) (runZ z w m r) (m - runZ z w m r + 1) (runZ z w m r) (by omega)
      refine ⟨by omega, fun h => by omega, fun h => ?_⟩
      rw [srF]
      by_cases q : (lrF z w n (m + 1) (runZ z w m r) (m - runZ z w m r + 1) (runZ z w m r)).1 = runZ z w m r
      · rw [if_pos ⟨by omega, q.symm⟩, i2 q]
        omega
      · rw [if_neg (fun y => q y.2.symm)]
        exact i3 (by omega)
    · have e : lrF z w (n + 1) m b s r = lrF z w n (m + 1) b s (runZ z w m r) := by rw [lrF, if_neg c, if_neg c]
      rw [e]
      obtain ⟨i1, i2, i3⟩ := ih (m + 1) b s (runZ z w m r) hb
      refine ⟨i1, i2, fun h => ?_⟩
      rw [srF, if_neg (fun y => by have := y.2; omega)]
      exact i3 h
theorem srF_0 (z : Nat → Int) (w : Int) : ∀ (n : Nat) (m r : Int), srF z w 0 n m r = -1 := by
  intro n
  induction n with
  | zero => intro m r; rfl
  | succ n ih => intro m r; rw [srF, if_neg (fun y => by have := y.1; have := y.2; omega)]; exact ih _ _
def rowZ (z : Nat → Int) (w : Nat) : Int × Int := lrF z w (z (31 * w)).toNat 0 0 (-1) 0
theorem row_start (z : Nat → Int) (w : Nat) : srF z w (rowZ z w).1 (z (31 * w)).toNat 0 0 = (rowZ z w).2 := by
  obtain ⟨i1, i2, i3⟩ := lrF_is z w (z (31 * w)).toNat 0 0 (-1) 0 (Int.le_refl _)
  have h1 : 0 ≤ (rowZ z w).1 := i1
  by_cases c : (rowZ z w).1 = 0
  · rw [c, srF_0]
    exact (i2 c).symm
  · exact i3 (by show 0 < (rowZ z w).1; omega)
theorem run_b (z : Nat → Int) (w m : Int) {r M : Int} (h1 : 0 ≤ r) (h2 : r ≤ M) : 0 ≤ runZ z w m r ∧ runZ z w m r ≤ M + 1 := by
  unfold runZ
  split <;> omega
section ROWS
variable {h : HP} {a b p : Nat} {z : Nat → Int}
theorem at_r (F : WF z) (w m : Int) : -1 ≤ atZ z w m ∧ atZ z w m < 10 := by
  obtain ⟨-, ⟨n1, n2⟩, -⟩ := id F
  rcases atZ_is F w m with ⟨a1, -⟩ | ⟨k, a1, a2, -⟩ <;> omega
theorem a_row1 (S : FS a b p) (R : RepS h b z) (F : WF z) {w : Nat} (hw : (w : Int) < z 184) (s : Int) : ∀ (n : Nat) (m bb r : Int) (fu : Nat), m + n = z (31 * w) → n < fu → 0 ≤ m → 0 ≤ r → r ≤ m → 0 ≤ bb → bb ≤ m → ∀ s : Int, f_A_longestFreeRow_7 h fu a (iI w) (iI bb) (iI r) (iI m) = some (iI (lrF z w n m bb s r).1) := by
  obtain ⟨⟨w1, w2⟩, -⟩ := id F
  have hL := F.2.2.2.1 w (by omega)
  intro n
  induction n with
  | zero =>
    intro m bb r fu hm hfu h0 r0 r1 b0 b1 s
    obtain ⟨fu, rfl⟩ : ∃ k, fu = k + 1 := ⟨fu - 1, by omega⟩
    rw [f_A_longestFreeRow_7, S.f0, st_len R S.bs F (w := (w : Int)) ⟨by omega, hw⟩, Option.bind_some, show (w : Int).toNat = w by omega, tLe (by omega) (by omega) (by omega) (by omega), if_pos (by omega)]
    rfl
  | succ n ih =>
    intro m bb r fu hm hfu h0 r0 r1 b0 b1 s
    obtain ⟨fu, rfl⟩ : ∃ k, fu = k + 1 := ⟨fu - 1, by omega⟩
    have hr := run_b z w m r0 r1
    have ha := at_r F w m
    have st : ∀ q : Int, 0 ≤ q → q ≤ m + 1 → f_A_longestFreeRow_38 h (f_A_longestFreeRow_7 h fu) a (iI w) (iI bb) (iI m) (iI q) = some (iI (lrF z w n (m + 1) (if bb < q then q else bb) (if bb < q then m - q + 1 else s) q).1) := by
      intro q q0 q1
      unfold f_A_longestFreeRow_38 f_J_max
      rw [tLt (by omega) (by omega) (by omega) (by omega), lI1, iI_add]
      by_cases c : bb < q
      · rw [if_pos c, Option.bind_some, if_pos c, if_pos c]
        exact ih (m + 1) q q fu (by omega) (by omega) (by omega) q0 q1 q0 q1 _
      · rw [if_neg c, Option.bind_some, if_neg c, if_neg c]
        exact ih (m + 1) bb q fu (by omega) (by omega) (by omega) q0 q1 b0 (by omega) _
    rw [f_A_longestFreeRow_7, S.f0, st_len R S.bs F (w := (w : Int)) ⟨by omega, hw⟩, Option.bind_some, show (w : Int).toNat = w by omega, tLe (by omega) (by omega) (by omega) (by omega), if_neg (by omega), a_who S R F ⟨by omega, by omega⟩ ⟨by omega, by omega⟩, Option.bind_some, lI1, lI0, iI_neg, iI_add, tEq (by omega) (by omega) (by omega) (by omega), st _ (by omega) (by omega), st _ (by omega) (by omega), lrF]
    unfold runZ
    by_cases c : atZ z w m = -1
    · rw [if_pos c, if_pos c]
    · rw [if_neg c, if_neg c]
theorem a_row (S : FS a b p) (R : RepS h b z) (F : WF z) {w : Nat} (hw : (w : Int) < z 184) : f_A_longestFreeRow h a (iI w) = some (iI (rowZ z w).1) := by
  obtain ⟨⟨w1, w2⟩, -⟩ := id F
  have hL := F.2.2.2.1 w (by omega)
  unfold f_A_longestFreeRow rowZ
  rw [lI0]
  exact a_row1 S R F hw 0 (z (31 * w)).toNat 0 0 0 4096 (by omega) (by omega) (by omega) (by omega) (by omega) (by omega) (by omega) (-1)
theorem a_start1 (S : FS a b p) (R : RepS h b z) (F : WF z) {w : Nat} (hw : (w : Int) < z 184) {B : Int} (hB : 0 ≤ B ∧ B ≤ 1000) : ∀ (n : Nat) (m r : Int) (fu : Nat), m + n = z (31 * w) → n < fu → 0 ≤ m → 0 ≤ r → r ≤ m → f_A_startOfLongestFreeRow_11 h fu a (iI w) (iI B) (iI r) (iI m) = some (iI (srF z w B n m r)) := by
  obtain ⟨⟨w1, w2⟩, -⟩ := id F
  have hL := F.2.2.2.1 w (by omega)
  intro n
  induction n with
  | zero =>
    intro m r fu hm hfu h0 r0 r1
    obtain ⟨fu, rfl⟩ : ∃ k, fu = k + 1 := ⟨fu - 1, by omega⟩
    rw [f_A_startOfLongestFreeRow_11, S.f0, st_len R S.bs F (w := (w : Int)) ⟨by omega, hw⟩, Option.bind_some, show (w : Int).toNat = w by omega, tLe (by omega) (by omega) (by omega) (by omega), if_pos (by omega), lI1, iI_neg]
    rfl
  | succ n ih =>
    intro m r fu hm hfu h0 r0 r1
    obtain ⟨fu, rfl⟩ : ∃ k, fu = k + 1 := ⟨fu - 1, by omega⟩
    have hr := run_b z w m r0 r1
    have ha := at_r F w m
    have st : ∀ q : Int, 0 ≤ q → q ≤ m + 1 → f_A_startOfLongestFreeRow_42 h (f_A_startOfLongestFreeRow_11 h fu) a (iI w) (iI B) (iI m) (iI q) = some (iI (if 0 < q ∧ q = B then m + 1 - q else srF z w B n (m + 1) q)) := by
      intro q q0 q1
      have nx := ih (m + 1) q fu (by omega) (by omega) (by omega) q0 q1
      unfold f_A_startOfLongestFreeRow_42 f_A_startOfLongestFreeRow_59
      rw [lI0, lI1, iI_add, iI_sub, nx, tLe (by omega) (by omega) (by omega) (by omega), tEq (by omega) (by omega) (by omega) (by omega)]
      by_cases c : q ≤ 0
      · rw [if_pos c, if_neg (fun y => by have := y.1; omega)]
      · rw [if_neg c]
        by_cases c2 : q = B
        · rw [if_pos c2, if_pos ⟨by omega, c2⟩]
        · rw [if_neg c2, if_neg (fun y => c2 y.2)]
    rw [f_A_startOfLongestFreeRow_11, S.f0, st_len R S.bs F (w := (w : Int)) ⟨by omega, hw⟩, Option.bind_some, show (w : Int).toNat = w by omega, tLe (by omega) (by omega) (by omega) (by omega), if_neg (by omega), a_who S R F ⟨by omega, by omega⟩ ⟨by omega, by omega⟩, Option.bind_some, lI1, lI0, iI_neg, iI_add, tEq (by omega) (by omega) (by omega) (by omega), st _ (by omega) (by omega), st _ (by omega) (by omega), srF]
    unfold runZ
    by_cases c : atZ z w m = -1
    · rw [if_pos c, if_pos c]
    · rw [if_neg c, if_neg c]
end ROWS
