/-! calls that must be refused: none changes anything -/
theorem lI15 : (15 : Int32) = iI 15 := by decide
theorem lI51 : (51 : Int32) = iI 51 := by decide
theorem lI256 : (256 : Int32) = iI 256 := by decide
/-- a wall that is there has its length -/
def WX (z : Nat → Int) : Prop := ∀ w : Nat, w < 4 → (w : Int) < z 184 → 4 ≤ z (31 * w)
section ERRORS
variable {h : HP} {z : Nat → Int} {B : Int} {A : (Nat → Nat → Int) × Nat × (Nat → Bool) × (Nat → Nat → Int) × (Nat → Int) × Nat}

theorem err_694 (I : CI B h (z, A)) : f_Q_errors_694 180 (nowV z) 1 h = some (1, h) := by
  rw [f_Q_errors_694, if_neg (by decide), w_now I, Option.bind_some]
  dsimp only
  rw [if_pos (cmp_s _)]
theorem err_610 (I : CI B h (z, A)) : ∃ h', f_Q_errors_610 180 (nowV z) h = some (1, h') ∧ QF h h' := by
  obtain ⟨h1, g1, q1⟩ := w_runScript_a I (s := 1000000000000000) (v := 3) (by omega) (by omega) (inn (by omega) (by omega)) (by omega) (by omega) (by show ¬ (1000000000000000 : Int) < p5 3; decide) lI3
  have I1 := I.qf q1
  refine ⟨h1, ?_, q1⟩
  rw [f_Q_errors_610]
  refine stp (w_runScript_b I (s := 0) (v := 0) (by omega) (by omega) (inn (by omega) (by omega)) (by omega) lI0) rfl ?_
  refine stp g1 rfl ?_
  refine stp (w_simulate_a I1 (v := 0) (inn (by omega) (by omega)) (by omega) lI0) rfl ?_
  refine stp (w_save_i I1 (x := 2) (inn (by omega) (by omega)) (by omega) lI2) rfl ?_
  refine stp (w_restore_i I1 (x := 2) (inn (by omega) (by omega)) (by omega) lI2) rfl ?_
  refine stp (w_append_a I1 (x := 256) (inn (by omega) (by omega)) (by omega) lI256) rfl ?_
  exact err_694 I1
theorem err_589 (I : CI B h (z, A)) : ∃ h', f_Q_errors_589 180 (nowV z) (iI (z 185)) h = some (1, h') ∧ QF h h' := by
  have hd10 := I.d10
  obtain ⟨h1, g1, q1⟩ := err_610 I
  refine ⟨h1, ?_, q1⟩
  rw [f_Q_errors_589, lI10, tLt (by omega) (by omega) (by omega) (by omega)]
  by_cases c : z 185 < 10
  · rw [if_pos c]; exact g1
  · rw [if_neg c]
    refine stp (w_dealer_s I (x := 0) (y := 1) (v := 0) (inn (by omega) (by omega)) (inn (by omega) (by omega)) (inn (by omega) (by omega)) (by decide) (by omega) lI0 lI1 lI0) rfl ?_
    exact g1
theorem err_571 (I : CI B h (z, A)) : ∃ h', f_Q_errors_571 180 (nowV z) (iI (z 184)) (iI (z 185)) h = some (1, h') ∧ QF h h' := by
  have hn4 := I.n4
  obtain ⟨h1, g1, q1⟩ := err_589 I
  refine ⟨h1, ?_, q1⟩
  rw [f_Q_errors_571, lI4, tLt (by omega) (by omega) (by omega) (by omega)]
  by_cases c : z 184 < 4
  · rw [if_pos c]; exact g1
  · rw [if_neg c]
    refine stp (w_wall_s I (v := 9) (inn (by omega) (by omega)) (by omega) (by omega) lI9) rfl ?_
    exact g1
theorem err_475 (I : CI B h (z, A)) : ∃ h', f_Q_errors_475 180 (nowV z) (iI (z 184)) (iI (z 185)) h = some (1, h') ∧ QF h h' := by
  have hd10 := I.d10
  obtain ⟨h1, g1, q1⟩ := err_571 I
  refine ⟨h1, ?_, q1⟩
  rw [f_Q_errors_475, lI0, tEq (by omega) (by omega) (by omega) (by omega)]
  by_cases c : z 185 = 0
  · rw [if_pos c]; exact g1
  · rw [if_neg c]
    refine stp (w_dealerOf_a I (x := 0) (v := 12) (inn (by omega) (by omega)) (inn (by omega) (by omega)) (by omega) (by omega) rfl lI12) rfl ?_
    refine stp (w_plugOf_a I (x := 0) (v := 3) (inn (by omega) (by omega)) (inn (by omega) (by omega)) (by omega) (by omega) rfl lI3) rfl ?_
    refine stp (w_swap_a I (x := 0) (y := 0) (inn (by omega) (by omega)) (inn (by omega) (by omega)) (by omega) (by omega) rfl rfl rfl) rfl ?_
    refine stp (w_why_a I (x := 0) (y := 0) (inn (by omega) (by omega)) (inn (by omega) (by omega)) (by omega) (by omega) rfl rfl rfl) rfl ?_
    refine stp (w_cheapest_a I (x := 0) (v := 2) (inn (by omega) (by omega)) (inn (by omega) (by omega)) (by omega) (by omega) rfl lI2) rfl ?_
    refine stq (w_dealerOf I (x := 0) (v := 3) (inn (by omega) (by omega)) (inn (by omega) (by omega)) (by omega) (by omega) rfl lI3) ?_
    dsimp only
    have hW := I.wf.wall (d := 0) (by omega) (by show (0 : Int) < z 185; omega)
    by_cases c2 : z 127 = -1
    · rw [if_pos (show lg_cmp (li (dofF z (0 : Int).toNat 3)) (-1) = iI 0 from cmp_0.mpr (by show li (z (127 + 6 * (0 : Int).toNat)) = -1; rw [show 127 + 6 * (0 : Int).toNat = 127 from rfl, c2]; rfl))]
      refine stp (w_leave_s I (x := 0) (inn (by omega) (by omega)) (by omega) c2 rfl) rfl ?_
      exact g1
    · rw [if_neg (fun q => by
        have q := congrArg Int64.toInt (cmp_0.mp q)
        have e : (li (dofF z (0 : Int).toNat 3)).toInt = z 127 := li_t (inn (by show -1000000 ≤ z (127 + 6 * 0); omega) (by show z (127 + 6 * 0) ≤ 1000000; omega))
        rw [e] at q
        exact c2 q)]
      exact g1
theorem err_380 (I : CI B h (z, A)) (X : WX z) : ∃ h', f_Q_errors_380 180 (nowV z) (iI (z 184)) (iI (z 185)) 1 h = some (1, h') ∧ QF h h' := by
  have hn4 := I.n4
  obtain ⟨h1, g1, q1⟩ := err_475 I
  refine ⟨h1, ?_, q1⟩
  rw [f_Q_errors_380, if_neg (by decide), lI0, tEq (by omega) (by omega) (by omega) (by omega)]
  by_cases c : z 184 = 0
  · rw [if_pos c]; exact g1
  · rw [if_neg c]
    have hL := I.wf.2.2.2.1 0 (by omega)
    have hL : 0 ≤ z 0 ∧ z 0 ≤ 30 := hL
    have hL2 : z (31 * (0 : Int).toNat) = z 0 := rfl
    refine stp (w_wallOf_a I (x := 0) (v := 6) (inn (by omega) (by omega)) (inn (by omega) (by omega)) (by omega) (by omega) rfl lI6) rfl ?_
    refine stp (w_metreOf_i I (x := 0) (y := 30) (v := 0) (inn (by omega) (by omega)) (inn (by omega) (by omega)) (inn (by omega) (by omega)) (by rw [hL2]; omega) rfl lI30 rfl) rfl ?_
    refine stp (w_metreOf_a I (x := 0) (y := 0) (v := 3) (inn (by omega) (by omega)) (inn (by omega) (by omega)) (inn (by omega) (by omega)) (by rw [hL2]; have : 4 ≤ z 0 := X 0 (by omega) (by show (0 : Int) < z 184; omega); omega) (by omega) rfl rfl lI3) rfl ?_
    refine stp (w_outlet_a I (x := 0) (y := 0) (v := 5) (inn (by omega) (by omega)) (inn (by omega) (by omega)) (inn (by omega) (by omega)) (by rw [hL2]; have : 4 ≤ z 0 := X 0 (by omega) (by show (0 : Int) < z 184; omega); omega) (by omega) rfl rfl lI5) rfl ?_
    refine stp (w_outlet_i I (x := 0) (y := -1) (v := 0) (inn (by omega) (by omega)) (inn (by omega) (by omega)) (inn (by omega) (by omega)) (by omega) rfl m1I rfl) rfl ?_
    refine stp (w_free_a I (x := 0) (v := 2) (inn (by omega) (by omega)) (inn (by omega) (by omega)) (by omega) (by omega) rfl lI2) rfl ?_
    exact g1
theorem w_errors (I : CI B h (z, A)) (X : WX z) : ∃ h', f_Q_errors h 180 = some (1, h') ∧ QF h h' := by
  have hn4 := I.n4
  have hd10 := I.d10
  obtain ⟨h1, g1, q1⟩ := err_380 I X
  refine ⟨h1, ?_, q1⟩
  unfold f_Q_errors
  refine stq (w_now I) ?_
  refine stq (w_about I (v := 0) (inn (by omega) (by omega)) (by omega) lI0) ?_
  refine stq (w_about I (v := 1) (inn (by omega) (by omega)) (by omega) lI1) ?_
  refine stp (w_about_a I (v := (-1)) (inn (by omega) (by omega)) (by omega) m1I) rfl ?_
  refine stp (w_about_a I (v := 14) (inn (by omega) (by omega)) (by omega) lI14) rfl ?_
  refine stp (w_wallOf_i I (x := (z 184)) (v := 6) (inn (by omega) (by omega)) (inn (by omega) (by omega)) (by omega) (li_32 _) lI6) rfl ?_
  refine stp (w_metreOf_i I (x := (z 184)) (y := 0) (v := 3) (inn (by omega) (by omega)) (inn (by omega) (by omega)) (inn (by omega) (by omega)) (by omega) (li_32 _) lI0 lI3) rfl ?_
  refine stp (w_dealerOf_i I (x := (z 185)) (v := 12) (inn (by omega) (by omega)) (inn (by omega) (by omega)) (by omega) (li_32 _) lI12) rfl ?_
  refine stp (w_dealerOf_i I (x := (-1)) (v := 0) (inn (by omega) (by omega)) (inn (by omega) (by omega)) (by omega) m1I lI0) rfl ?_
  refine stp (w_plugOf_i I (x := (z 185)) (v := 3) (inn (by omega) (by omega)) (inn (by omega) (by omega)) (by omega) (li_32 _) lI3) rfl ?_
  refine stp (w_setting_a I (v := 6) (inn (by omega) (by omega)) (by omega) lI6) rfl ?_
  refine stp (w_free_i I (x := (z 184)) (v := 2) (inn (by omega) (by omega)) (inn (by omega) (by omega)) (by omega) (li_32 _) lI2) rfl ?_
  refine stp (w_wall_a I (v := 3) (inn (by omega) (by omega)) (by omega) lI3) rfl ?_
  refine stp (w_outlet_i I (x := (z 184)) (y := 0) (v := 5) (inn (by omega) (by omega)) (inn (by omega) (by omega)) (inn (by omega) (by omega)) (by omega) (li_32 _) lI0 lI5) rfl ?_
  refine stp (w_dealer_a I (x := (-1)) (y := 1) (v := 0) (inn (by omega) (by omega)) (inn (by omega) (by omega)) (inn (by omega) (by omega)) (by decide) m1I lI1 lI0) rfl ?_
  refine stp (w_dealer_a I (x := 0) (y := 0) (v := 0) (inn (by omega) (by omega)) (inn (by omega) (by omega)) (inn (by omega) (by omega)) (by decide) lI0 lI0 lI0) rfl ?_
  refine stp (w_dealer_a I (x := 0) (y := 1) (v := 4) (inn (by omega) (by omega)) (inn (by omega) (by omega)) (inn (by omega) (by omega)) (by decide) lI0 lI1 lI4) rfl ?_
  refine stp (w_place_j I (x := (z 185)) (y := 0) (v := 0) (inn (by omega) (by omega)) (inn (by omega) (by omega)) (inn (by omega) (by omega)) (by omega) (li_32 _) lI0 lI0) rfl ?_
  have P9 : f_Q_place h 180 0 (li (z 184)).toInt32 0 = some (xIX, h) := by
    by_cases c : (0 : Int) ≤ 0 ∧ (0 : Int) < z 185
    · exact w_place_i I (x := 0) (y := z 184) (v := 0) (inn (by omega) (by omega)) (inn (by omega) (by omega)) (inn (by omega) (by omega)) c (by omega) lI0 (li_32 _) lI0
    · exact w_place_j I (x := 0) (y := z 184) (v := 0) (inn (by omega) (by omega)) (inn (by omega) (by omega)) (inn (by omega) (by omega)) c lI0 (li_32 _) lI0
  refine stp P9 rfl ?_
  refine stp (w_leave_i I (x := (z 185)) (inn (by omega) (by omega)) (by omega) (li_32 _)) rfl ?_
  refine stp (w_swap_i I (x := (z 185)) (y := (z 185)) (inn (by omega) (by omega)) (inn (by omega) (by omega)) (by omega) (li_32 _) (li_32 _)) rfl ?_
  refine stp (w_days_a I (v := 0) (inn (by omega) (by omega)) (by omega) lI0) rfl ?_
  refine stp (w_set_a I (x := 1) (v := 10) (inn (by omega) (by omega)) (inn (by omega) (by omega)) (by decide) lI1 lI10) rfl ?_
  refine stp (w_set_a I (x := 0) (v := 51) (inn (by omega) (by omega)) (inn (by omega) (by omega)) (by decide) lI0 lI51) rfl ?_
  refine stp (w_set_a I (x := 6) (v := 0) (inn (by omega) (by omega)) (inn (by omega) (by omega)) (by decide) lI6 lI0) rfl ?_
  refine stp (w_rentIf_i I (x := (z 185)) (y := 0) (v := 0) (inn (by omega) (by omega)) (inn (by omega) (by omega)) (inn (by omega) (by omega)) (by omega) (li_32 _) lI0 lI0) rfl ?_
  refine stp (w_cheapest_i I (x := (z 185)) (v := 2) (inn (by omega) (by omega)) (inn (by omega) (by omega)) (by omega) (li_32 _) lI2) rfl ?_
  refine stp (w_bestSwap_a I (v := 2) (inn (by omega) (by omega)) (by omega) lI2) rfl ?_
  refine stp (w_why_i I (x := (z 185)) (y := 0) (inn (by omega) (by omega)) (inn (by omega) (by omega)) (by omega) (li_32 _) lI0) rfl ?_
  have ea : (li (aboF z 0)).toInt32 = iI (z 184) := by rw [li_32]; unfold aboF; rw [if_pos rfl]
  have eb : (li (aboF z 1)).toInt32 = iI (z 185) := by rw [li_32]; unfold aboF; rw [if_neg (by decide), if_pos rfl]
  show f_Q_errors_380 180 (nowV z) (li (aboF z 0)).toInt32 (li (aboF z 1)).toInt32 1 h = some (1, h1)
  rw [ea, eb]
  exact g1
end ERRORS
