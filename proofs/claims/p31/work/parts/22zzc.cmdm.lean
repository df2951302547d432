/-! the text's commands: the reference -/
def MSt (h : HP) (g : Bool) (pos : Nat) : Prop := h 200 13 = iI pos ∧ h 200 14 = iI (boI g)
def FrM (h h' : HP) : Prop := (∀ i, i ≠ 200 → i ≠ 203 → i ≠ 207 → i ≠ 208 → i ≠ 209 → h' i = h i) ∧ ∀ k, k ≠ 13 → k ≠ 14 → k ≠ 15 → h' 200 k = h 200 k
noncomputable def exR (r : Nat) (a b c : Int) (z : Nat → Int) : Rw := if r = 0 then doW z a else if r = 1 then doO z a b c else if r = 2 then doD z a b c else if r = 3 then doP 0 z a b c else if r = 4 then doL z a else if r = 5 then doS 0 z a b else if r = 6 then doN z a else doE z a b
section CMDM
variable {h g : HP} {t z : Nat → Int} {n : Nat} {B : Int}
theorem FrM.refl (h : HP) : FrM h h := ⟨fun _ _ _ _ _ _ => rfl, fun _ _ _ _ => rfl⟩
theorem FrM.trans {h' : HP} (a : FrM h g) (b : FrM g h') : FrM h h' := ⟨fun i i1 i2 i3 i4 i5 => by rw [b.1 i i1 i2 i3 i4 i5, a.1 i i1 i2 i3 i4 i5], fun k k1 k2 k3 => by rw [b.2 k k1 k2 k3, a.2 k k1 k2 k3]⟩
theorem FrM.of (e : ∀ i, i ≠ 203 → i ≠ 207 → i ≠ 208 → i ≠ 209 → g i = h i) : FrM h g := ⟨fun i _ i2 i3 i4 i5 => e i i2 i3 i4 i5, fun k _ _ _ => by rw [e 200 (by decide) (by decide) (by decide) (by decide)]⟩
theorem TxM.tr (T : TxM h t n) (f : FrM h g) : TxM g t n := T.fr (f.2 12 (by decide) (by decide) (by decide)) (f.1 210 (by decide) (by decide) (by decide) (by decide) (by decide))
theorem bo_b (b : Bool) : 0 ≤ boI b ∧ boI b ≤ 1 := by cases b <;> decide
theorem ite_bo (c : Prop) [Decidable c] : (if c then (1 : Int32) else 0) = iI (boI (decide c)) := by
  by_cases q : c
  · rw [if_pos q, decide_eq_true q]; decide
  · rw [if_neg q, decide_eq_false q]; decide
theorem bo0 (b : Bool) {α : Type} (x y : α) : (if iI (boI b) = 0 then x else y) = if b = true then y else x := by
  cases b
  · rw [if_pos (by decide), if_neg (by decide)]
  · rw [if_neg (by decide), if_pos rfl]
end CMDM
