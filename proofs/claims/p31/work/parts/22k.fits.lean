/-! does it fit: the reference metre by metre, the class pitch by pitch -/
abbrev cov (z : Nat → Int) (w m : Int) (k : Nat) : Prop := z (127 + 6 * k) = w ∧ z (128 + 6 * k) ≤ m ∧ m < z (128 + 6 * k) + z (125 + 6 * k)
theorem atF_is (z : Nat → Int) (w m : Int) : ∀ n i : Nat, (atF z w m n i = -1 ∧ ∀ k, i ≤ k → k < i + n → ¬ cov z w m k) ∨ ∃ k : Nat, i ≤ k ∧ k < i + n ∧ atF z w m n i = k ∧ cov z w m k := by
  intro n
  induction n with
  | zero => intro i; exact Or.inl ⟨rfl, fun k h1 h2 => by omega⟩
  | succ n ih =>
    intro i
    rw [atF]
    by_cases c : cov z w m i
    · rw [if_pos c]
      exact Or.inr ⟨i, by omega, by omega, rfl, c⟩
    · rw [if_neg c]
      rcases ih (i + 1) with ⟨h1, h2⟩ | ⟨k, h1, h2, h3, h4⟩
      · refine Or.inl ⟨h1, fun k g1 g2 => ?_⟩
        by_cases e : k = i
        · rw [e]; exact c
        · exact h2 k (by omega) (by omega)
      · exact Or.inr ⟨k, by omega, by omega, h3, h4⟩
theorem atZ_is {z : Nat → Int} (F : WF z) (w m : Int) : (atZ z w m = -1 ∧ ∀ k : Nat, (k : Int) < z 185 → ¬ cov z w m k) ∨ ∃ k : Nat, (k : Int) < z 185 ∧ atZ z w m = k ∧ cov z w m k := by
  obtain ⟨-, ⟨n1, n2⟩, -⟩ := id F
  rcases atF_is z w m (z 185).toNat 0 with ⟨h1, h2⟩ | ⟨k, h1, h2, h3, h4⟩
  · exact Or.inl ⟨h1, fun k hk => h2 k (by omega) (by omega)⟩
  · exact Or.inr ⟨k, by omega, h3, h4⟩
theorem cov_one {z : Nat → Int} (F : WF z) {w m : Int} (hw : 0 ≤ w) {k j : Nat} (hk : (k : Int) < z 185) (hj : (j : Int) < z 185) (h1 : cov z w m k) (h2 : cov z w m j) : k = j := by
  obtain ⟨-, ⟨n1, n2⟩, -, -, -, -, -, hdis, -⟩ := id F
  by_cases e : k = j
  · exact e
  · have := hdis k j (by omega) (by omega) e hk hj (by have := h1.1; omega) (h1.1.trans h2.1.symm)
    have := h1.2
    have := h2.2
    omega
theorem frB_is (z : Nat → Int) (w f l : Int) (d e : Nat) : ∀ n i : Nat, frB z w f l d e n i = true ↔ ∀ k : Nat, i ≤ k → k < i + n → ¬ (k ≠ d ∧ k ≠ e ∧ z (127 + 6 * k) = w ∧ f < z (128 + 6 * k) + z (125 + 6 * k) ∧ z (128 + 6 * k) < f + l) := by
  intro n
  induction n with
  | zero => intro i; exact ⟨fun _ k h1 h2 => by omega, fun _ => rfl⟩
  | succ n ih =>
    intro i
    rw [frB]
    by_cases c : i ≠ d ∧ i ≠ e ∧ z (127 + 6 * i) = w ∧ f < z (128 + 6 * i) + z (125 + 6 * i) ∧ z (128 + 6 * i) < f + l
    · rw [if_pos c]
      exact ⟨fun h => (by cases h), fun h => absurd c (h i (by omega) (by omega))⟩
    · rw [if_neg c, ih (i + 1)]
      refine ⟨fun h k h1 h2 => ?_, fun h k h1 h2 => h k (by omega) (by omega)⟩
      by_cases q : k = i
      · rw [q]; exact c
      · exact h k (by omega) (by omega)
theorem frZ_is {z : Nat → Int} (F : WF z) (w f l : Int) (d e : Nat) : frZ z w f l d e = true ↔ ∀ k : Nat, (k : Int) < z 185 → ¬ (k ≠ d ∧ k ≠ e ∧ z (127 + 6 * k) = w ∧ f < z (128 + 6 * k) + z (125 + 6 * k) ∧ z (128 + 6 * k) < f + l) := by
  obtain ⟨-, ⟨n1, n2⟩, -⟩ := id F
  unfold frZ
  rw [frB_is]
  exact ⟨fun h k hk => h k (by omega) (by omega), fun h k h1 h2 => h k (by omega)⟩
def okB (z : Nat → Int) (w : Int) (d e : Nat) : Nat → Int → Bool
  | 0, _ => true
  | n + 1, m => if atZ z w m = -1 ∨ atZ z w m = d ∨ atZ z w m = e then okB z w d e n (m + 1) else false
theorem okB_is (z : Nat → Int) (w : Int) (d e : Nat) : ∀ (n : Nat) (m : Int), okB z w d e n m = true ↔ ∀ j : Int, m ≤ j → j < m + n → (atZ z w j = -1 ∨ atZ z w j = d ∨ atZ z w j = e) := by
  intro n
  induction n with
  | zero => intro m; exact ⟨fun _ j h1 h2 => by omega, fun _ => rfl⟩
  | succ n ih =>
    intro m
    rw [okB]
    by_cases c : atZ z w m = -1 ∨ atZ z w m = d ∨ atZ z w m = e
    · rw [if_pos c, ih (m + 1)]
      refine ⟨fun h j h1 h2 => ?_, fun h j h1 h2 => h j (by omega) (by omega)⟩
      by_cases q : j = m
      · rw [q]; exact c
      · exact h j (by omega) (by omega)
    · rw [if_neg c]
      exact ⟨fun h => (by cases h), fun h => absurd (h m (by omega) (by omega)) c⟩
theorem ok_fr {z : Nat → Int} (F : WF z) {w f : Int} (hw : 0 ≤ w) {d e : Nat} {n : Nat} (hn : 1 ≤ n) : okB z w d e n f = true ↔ frZ z w f n d e = true := by
  rw [okB_is, frZ_is F]
  obtain ⟨-, ⟨n1, n2⟩, -, -, -, hdl, -⟩ := id F
  constructor
  · intro h k hk ⟨q1, q2, q3, q4, q5⟩
    have hfr := (hdl k (by omega)).2.1 hk
    have key : ∃ j : Int, f ≤ j ∧ j < f + n ∧ cov z w j k := by
      by_cases c : f ≤ z (128 + 6 * k)
      · exact ⟨z (128 + 6 * k), c, q5, q3, by omega, by omega⟩
      · exact ⟨f, by omega, by omega, q3, by omega, q4⟩
    obtain ⟨j, j1, j2, j3⟩ := key
    have hj := h j j1 j2
    rcases atZ_is F w j with ⟨a1, a2⟩ | ⟨k', a1, a2, a3⟩
    · exact a2 k hk j3
    · have e1 := cov_one F hw hk a1 j3 a3
      rw [a2, ← e1] at hj
      omega
  · intro h j j1 j2
    rcases atZ_is F w j with ⟨a1, a2⟩ | ⟨k, a1, a2, a3⟩
    · exact Or.inl a1
    · have := h k a1
      rw [a2]
      have h3 := a3.1
      have h4 := a3.2.1
      have h5 := a3.2.2
      by_cases q1 : k = d
      · right; left; omega
      · by_cases q2 : k = e
        · right; right; omega
        · exact absurd ⟨q1, q2, h3, by omega, by omega⟩ this
section FITS
variable {h : HP} {a b p : Nat} {z : Nat → Int}
def rsnP (z : Nat → Int) (d : Nat) (w f : Int) : Int := if z (127 + 6 * d) = -1 then (if f + z (125 + 6 * d) ≤ z (31 * w.toNat) then (if frZ z w f (z (125 + 6 * d)) d d = true then 0 else 3) else 2) else 1
theorem a_why (S : FS a b p) (R : RepS h b z) (F : WF z) {d : Nat} (hd : d < 10) (h2 : (d : Int) < z 185) {w f : Int} (hw : 0 ≤ w ∧ w < z 184) (hf : 0 ≤ f ∧ f < z (31 * w.toNat)) : f_A_placeReason h a (iI d) (iI w) (iI f) = some (iI (rsnP z d w f)) := by
  obtain ⟨⟨w1, w2⟩, ⟨n1, n2⟩, -⟩ := id F
  have hD := F.2.2.2.2.2.1 d hd
  have hL := F.2.2.2.1 w.toNat (by omega)
  have cD : 0 ≤ (d : Int) ∧ (d : Int) < z 185 := ⟨by omega, h2⟩
  have cM : 0 ≤ w ∧ w < z 184 ∧ 0 ≤ f ∧ f < z (31 * w.toNat) := ⟨hw.1, hw.2, hf.1, hf.2⟩
  unfold f_A_placeReason rsnP
  rw [S.f0, s_hasDealer R F ⟨by omega, by omega⟩, Option.bind_some, if_pos cD, if_neg (by decide), s_hasMetre R S.bs F ⟨by omega, by omega⟩ ⟨by omega, by omega⟩, Option.bind_some, if_pos cM, if_neg (by decide), st_stands R S.bs F hd h2, Option.bind_some]
  by_cases c : z (127 + 6 * d) = -1
  · rw [if_pos c, if_pos c, if_pos rfl, e2_ hd, if_pos rfl, st_len R S.bs F hw, Option.bind_some, e1_ hd, R.q3 S.bs hd h2, iI_add, tLe (by omega) (by omega) (by omega) (by omega)]
    by_cases c2 : f + z (125 + 6 * d) ≤ z (31 * w.toNat)
    · rw [if_pos c2, if_pos c2, if_pos rfl, a_isFree S R F ⟨hw.1, by omega⟩ ⟨hf.1, by omega⟩ hD.2.2.1 hd hd, Option.bind_some]
      by_cases c3 : frZ z w f (z (125 + 6 * d)) d d = true
      · rw [if_pos c3, if_neg (by decide), if_pos c3, lI0]
      · rw [if_neg c3, if_pos rfl, if_neg c3, lI3]
    · rw [if_neg c2, if_neg c2, lI2]
  · rw [if_neg c, if_neg c, if_neg (by decide), lI1]
end FITS
