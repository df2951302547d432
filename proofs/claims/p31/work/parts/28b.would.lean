/-! the cheapest place, the best swap: what they are -/
section WOULD
variable {u z : Nat → Int} {d : Nat}
def CW (u : Nat → Int) (d : Nat) (s : Int × Int) : Prop := (s.1 = -1 ∧ s.2 = -1) ∨ ∃ W M : Nat, (W : Int) < u 184 ∧ (M : Int) < u (31 * W) ∧ s.1 = 100 * (W : Int) + M ∧ s.2 = rifZ u d W M ∧ rifZ u d W M ≠ -1
def CL (u : Nat → Int) (d : Nat) (s : Int × Int) (W M : Nat) : Prop := rifZ u d W M ≠ -1 → s.2 ≠ -1 ∧ s.2 ≤ rifZ u d W M
theorem chN_is {s : Int × Int} {W M : Nat} (hW : (W : Int) < u 184) (hM : (M : Int) < u (31 * W)) (h : CW u d s) : CW u d (chN u d W M s) ∧ (∀ W' M', CL u d s W' M' → CL u d (chN u d W M s) W' M') ∧ CL u d (chN u d W M s) W M := by
  unfold chN
  by_cases c : rifZ u d W M ≠ -1 ∧ (s.2 = -1 ∨ rifZ u d W M < s.2)
  · rw [if_pos c]
    refine ⟨Or.inr ⟨W, M, hW, hM, rfl, rfl, c.1⟩, fun W' M' g q => ?_, fun q => ⟨c.1, Int.le_refl _⟩⟩
    have := g q
    refine ⟨c.1, ?_⟩
    show rifZ u d W M ≤ rifZ u d W' M'
    rcases c.2 with e | e
    · exact absurd e this.1
    · omega
  · rw [if_neg c]
    refine ⟨h, fun _ _ g => g, fun q => ?_⟩
    by_cases e : s.2 = -1
    · exact absurd ⟨q, Or.inl e⟩ c
    · by_cases e2 : rifZ u d W M < s.2
      · exact absurd ⟨q, Or.inr e2⟩ c
      · exact ⟨e, by omega⟩
theorem chI_is {W : Nat} (hW : (W : Int) < u 184) : ∀ (n m : Nat) (s : Int × Int), (m : Int) + n = u (31 * W) → CW u d s → CW u d (chI u d W n m s) ∧ (∀ W' M', CL u d s W' M' → CL u d (chI u d W n m s) W' M') ∧ ∀ M', m ≤ M' → (M' : Int) < u (31 * W) → CL u d (chI u d W n m s) W M' := by
  intro n
  induction n with
  | zero => intro m s hm h; exact ⟨h, fun _ _ g => g, fun M' h1 h2 => by omega⟩
  | succ n ih =>
    intro m s hm h
    rw [chI]
    obtain ⟨a1, a2, a3⟩ := chN_is (M := m) hW (by omega) h
    have e : (m : Int) + 1 = ((m + 1 : Nat) : Int) := by omega
    rw [e]
    obtain ⟨b1, b2, b3⟩ := ih (m + 1) _ (by omega) a1
    refine ⟨b1, fun W' M' g => b2 _ _ (a2 _ _ g), fun M' h1 h2 => ?_⟩
    by_cases c : M' = m
    · subst c; exact b2 _ _ a3
    · exact b3 M' (by omega) h2
theorem chO_is (hL : ∀ W : Nat, (W : Int) < u 184 → 0 ≤ u (31 * W)) : ∀ (n w : Nat) (s : Int × Int), (w : Int) + n = u 184 → CW u d s → CW u d (chO u d n w s) ∧ (∀ W' M', CL u d s W' M' → CL u d (chO u d n w s) W' M') ∧ ∀ W' M' : Nat, w ≤ W' → (W' : Int) < u 184 → (M' : Int) < u (31 * W') → CL u d (chO u d n w s) W' M' := by
  intro n
  induction n with
  | zero => intro w s hm h; exact ⟨h, fun _ _ g => g, fun W' M' h1 h2 => by omega⟩
  | succ n ih =>
    intro w s hm h
    have h0 := hL w (by omega)
    rw [chO]
    have e0 : ((w : Int)).toNat = w := by omega
    have e : (w : Int) + 1 = ((w + 1 : Nat) : Int) := by omega
    rw [e0, e]
    obtain ⟨a1, a2, a3⟩ := chI_is (d := d) (W := w) (by omega) (u (31 * w)).toNat 0 s (by omega) h
    have a1 : CW u d (chI u d w (u (31 * w)).toNat 0 s) := a1
    obtain ⟨b1, b2, b3⟩ := ih (w + 1) _ (by omega) a1
    refine ⟨b1, fun W' M' g => b2 _ _ (a2 _ _ g), fun W' M' h1 h2 h3 => ?_⟩
    by_cases c : W' = w
    · subst c; exact b2 _ _ (a3 M' (by omega) h3)
    · exact b3 W' M' (by omega) h2 h3
theorem cheap_is (F : WF z) {d : Nat} (hd : d < 10) : CW (zst z d (-1) (-1)) d (chO (zst z d (-1) (-1)) d (z 184).toNat 0 (-1, -1)) ∧ ∀ W' M' : Nat, (W' : Int) < z 184 → (M' : Int) < z (31 * W') → CL (zst z d (-1) (-1)) d (chO (zst z d (-1) (-1)) d (z 184).toNat 0 (-1, -1)) W' M' := by
  have hn := F.1
  have e1 : zst z d (-1) (-1) 184 = z 184 := zst_n _ _ _ _ (by omega) (by omega)
  have e2 : ∀ W : Nat, (W : Int) < z 184 → zst z d (-1) (-1) (31 * W) = z (31 * W) := fun W hW => zst_n _ _ _ _ (by omega) (by omega)
  obtain ⟨a, -, c⟩ := chO_is (u := zst z d (-1) (-1)) (d := d) (fun W hW => by
    rw [e1] at hW
    rw [e2 W hW]
    exact (F.2.2.2.1 W (by omega)).1) (z 184).toNat 0 (-1, -1) (by rw [e1]; omega) (Or.inl ⟨rfl, rfl⟩)
  exact ⟨a, fun W' M' h1 h2 => c W' M' (Nat.zero_le _) (by rw [e1]; exact h1) (by rw [e2 W' h1]; exact h2)⟩
def BW (z : Nat → Int) (s : Int × Int) : Prop := (s.1 = -1 ∧ s.2 = rtsZ z) ∨ ∃ d e : Nat, d < e ∧ (e : Int) < z 185 ∧ s.1 = 10 * (d : Int) + e ∧ s.2 = bsV z d e ∧ rtsZ z < s.2
theorem bsN_is {s : Int × Int} {d e : Nat} (hde : d < e) (he : (e : Int) < z 185) (h : BW z s) : BW z (bsN z d e s) := by
  unfold bsN
  by_cases c : s.2 < bsV z d e
  · rw [if_pos c]
    refine Or.inr ⟨d, e, hde, he, rfl, rfl, ?_⟩
    show rtsZ z < bsV z d e
    rcases h with ⟨-, h⟩ | ⟨_, _, -, -, -, -, h⟩ <;> omega
  · rw [if_neg c]; exact h
theorem bsI_is {d : Nat} : ∀ (n e : Nat) (s : Int × Int), (e : Int) + n = z 185 → d < e → BW z s → BW z (bsI z d n e s) := by
  intro n
  induction n with
  | zero => intro e s _ _ h; exact h
  | succ n ih =>
    intro e s he hd h
    rw [bsI]
    exact ih (e + 1) _ (by omega) (by omega) (bsN_is hd (by omega) h)
theorem bsO_is : ∀ (n d : Nat) (s : Int × Int), (d : Int) + n = z 185 → BW z s → BW z (bsO z n d s) := by
  intro n
  induction n with
  | zero => intro d s _ h; exact h
  | succ n ih =>
    intro d s hd h
    rw [bsO]
    exact ih (d + 1) _ (by omega) (bsI_is n (d + 1) s (by omega) (by omega) h)
theorem best_is (F : WF z) : BW z (bsO z (z 185).toNat 0 (-1, rtsZ z)) := bsO_is _ 0 _ (by have := F.2.1; omega) (Or.inl ⟨rfl, rfl⟩)
/-- who stands has his own place among those that the cheapest is sought of -/
theorem own_place (F : WF z) (hd : d < 10) (h2 : (d : Int) < z 185) (hst : z (127 + 6 * d) ≠ -1) : rifZ (zst z d (-1) (-1)) d (z (127 + 6 * d)) (z (128 + 6 * d)) = rentZ z d := by
  have hW := F.wall hd h2
  have hS := F.2.2.2.2.2.2.1 d hd h2
  have hn := F.2.1
  have e0 : zst (zst z d (-1) (-1)) d (z (127 + 6 * d)) (z (128 + 6 * d)) = z := by
    rw [zst_zst]
    funext k
    unfold zst
    by_cases c : k = 128 + 6 * d
    · rw [c, uI_s]
    · rw [uI_n _ _ c]
      by_cases c2 : k = 127 + 6 * d
      · rw [c2, uI_s]
      · rw [uI_n _ _ c2]
  unfold rifZ
  rw [e0, if_pos]
  have n1 : zst z d (-1) (-1) (127 + 6 * d) = -1 := by
    unfold zst
    rw [uI_n _ _ (by omega), uI_s]
  have n2 : zst z d (-1) (-1) (125 + 6 * d) = z (125 + 6 * d) := zst_n _ _ _ _ (by omega) (by omega)
  have n3 : zst z d (-1) (-1) (31 * (z (127 + 6 * d)).toNat) = z (31 * (z (127 + 6 * d)).toNat) := zst_n _ _ _ _ (by omega) (by omega)
  have n4 : zst z d (-1) (-1) 185 = z 185 := zst_n _ _ _ _ (by omega) (by omega)
  refine (rsn0 n1 _ _).mpr ⟨by rw [n2, n3]; omega, ?_⟩
  unfold frZ
  rw [n4, n2]
  refine (frB_is _ _ _ _ _ _ _ 0).mpr (fun k _ k2 q => ?_)
  obtain ⟨q1, -, q3, q4, q5⟩ := q
  have m1 : zst z d (-1) (-1) (127 + 6 * k) = z (127 + 6 * k) := zst_n _ _ _ _ (by omega) (by omega)
  have m2 : zst z d (-1) (-1) (128 + 6 * k) = z (128 + 6 * k) := zst_n _ _ _ _ (by omega) (by omega)
  have m3 : zst z d (-1) (-1) (125 + 6 * k) = z (125 + 6 * k) := zst_n _ _ _ _ (by omega) (by omega)
  rw [m1] at q3
  rw [m2, m3] at q4
  rw [m2] at q5
  have := F.2.2.2.2.2.2.2.2.1
  have g := F.2.2.2.2.2.2.2.1 d k hd (by omega) (fun e => q1 e.symm) h2 (by omega) hst q3.symm
  omega
theorem zst_id (F : WF z) (hd : d < 10) (h2 : (d : Int) < z 185) (hst : z (127 + 6 * d) = -1) : zst z d (-1) (-1) = z := by
  have hS := F.2.2.2.2.2.2.1 d hd h2
  funext k
  unfold zst
  by_cases c : k = 128 + 6 * d
  · rw [c, uI_s]; omega
  · rw [uI_n _ _ c]
    by_cases c2 : k = 127 + 6 * d
    · rw [c2, uI_s]; omega
    · rw [uI_n _ _ c2]
end WOULD
