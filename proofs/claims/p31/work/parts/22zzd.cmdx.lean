/-! the text's commands: the reference, letter by letter -/
section CMDX
variable {h g : HP} {t z : Nat → Int} {n : Nat} {B : Int}
theorem u188 (z : Nat → Int) : uI z 188 (z 188 + 0) = z := by
  funext k
  by_cases c : k = 188
  · rw [c, uI_s, Int.add_zero]
  · rw [uI_n _ _ c]
theorem exR_n (r : Nat) (a b c : Int) (z : Nat → Int) : (exR r a b c z).1 = false → (exR r a b c z).2 = z := by
  unfold exR doW doO doD doP doL doS doN doE
  repeat' split
  all_goals intro q
  all_goals first | rfl | exact absurd (show true = false from q) (by decide) | exact u188 z
theorem exR_ok (K : OKz B z) (r : Nat) (a b c : Int) : OKz (B + 42000) (exR r a b c z).2 := by
  have K' : OKz (B + 42000) z := K.mono (by omega)
  unfold exR
  repeat' split
  all_goals first | exact doP_ok K' _ _ _ _ | exact doS_ok K' _ _ _ | exact doL_ok K' _ | exact doN_ok K _ | exact doE_ok K' _ _ | exact doO_ok K' _ _ _ | exact doW_ok K' _ | exact doD_ok K' _ _ _
theorem nb1_k {r i : Nat} {s : Bool × Nat} (c : (nb1 t n r i s).2.1 = true) : s.1 = true := by
  cases q : s.1 with
  | true => rfl
  | false =>
    rw [nb1_f r i s q, q] at c
    exact absurd c (by decide)
theorem dec_c {c d : Prop} [Decidable c] [Decidable d] (e : c ↔ d) : decide c = decide d := by
  by_cases q : c
  · rw [decide_eq_true q, decide_eq_true (e.mp q)]
  · rw [decide_eq_false q, decide_eq_false (fun x => q (e.mpr x))]
theorem ite1 {c : Prop} [Decidable c] (y y' : Nat → Int) : (if c then ((true, y) : Rw) else (false, y')).1 = decide c := by
  by_cases q : c
  · rw [if_pos q, decide_eq_true q]
  · rw [if_neg q, decide_eq_false q]
theorem bI1 : (1 : Int32) = iI (boI true) := by decide
theorem bI0 : (0 : Int32) = iI (boI false) := by decide
end CMDX
