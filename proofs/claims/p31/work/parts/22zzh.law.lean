/-! the law answers 1, read off its functions: the two implementations agree on every script -/
section LAW
theorem it_t {α : Type} (x y : α) : (if true = true then x else y) = x := if_pos rfl
theorem upd_I {f : Nat → Int32} {z : Nat → Int} (e : ∀ k, f k = iI (z k)) (a : Nat) {x : Int32} {v : Int} (ex : x = iI v) : ∀ k, upd f a x k = iI (uI z a v k) := fun k => by
  by_cases c : k = a
  · rw [c, upd_s, uI_s, ex]
  · rw [upd_n _ _ c, uI_n _ _ c]
    exact e k
end LAW
