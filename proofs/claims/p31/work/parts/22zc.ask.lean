/-! what a call asks before it acts, on both sides -/
section ASK
variable {h : HP} {a b p : Nat} {z : Nat → Int}
theorem inr_nat {n : Nat} (h : n < 1000000) : InR (n : Int) := ⟨by omega, by omega⟩
theorem iI64 {x : Int} (hx : InR x) : ((iI x).toInt64).toInt = x := by
  rw [Int32.toInt_toInt64, iI_toInt hx.1 hx.2]
theorem isB_ite {c : Prop} [Decidable c] : isB (if c then (1 : Int32) else 0) = true := by
  by_cases q : c
  · rw [if_pos q]; rfl
  · rw [if_neg q]; rfl
theorem l640 : (0 : Int64) = (iI 0).toInt64 := by decide
theorem l641 : (1 : Int64) = (iI 1).toInt64 := by decide
theorem l642 : (2 : Int64) = (iI 2).toInt64 := by decide
theorem l643 : (3 : Int64) = (iI 3).toInt64 := by decide
theorem l644 : (4 : Int64) = (iI 4).toInt64 := by decide
theorem l645 : (5 : Int64) = (iI 5).toInt64 := by decide
theorem l649 : (9 : Int64) = (iI 9).toInt64 := by decide
theorem l6411 : (11 : Int64) = (iI 11).toInt64 := by decide
theorem l6413 : (13 : Int64) = (iI 13).toInt64 := by decide
theorem l6430 : (30 : Int64) = (iI 30).toInt64 := by decide
theorem l6450 : (50 : Int64) = (iI 50).toInt64 := by decide
theorem l6460 : (60 : Int64) = (iI 60).toInt64 := by decide
theorem l64255 : (255 : Int64) = (iI 255).toInt64 := by decide
theorem a_isLength {x : Int} (hx : InR x) : f_A_isLength h (iI x) = some (if 4 ≤ x ∧ x ≤ 30 then 1 else 0) := by
  unfold f_A_isLength
  rw [lI4, show (30 : Int32) = iI 30 from lI30, inRange hx ⟨by decide, by decide⟩ ⟨by decide, by decide⟩, Option.bind_some, isB_ite, if_pos rfl]
abbrev kindP (g f w : Int) : Prop := (0 ≤ g ∧ g ≤ 5) ∧ (1 ≤ f ∧ f ≤ 9) ∧ 0 ≤ w ∧ w ≤ 3
theorem a_isDealer {g f w : Int} (hg : InR g) (hf : InR f) (hw : InR w) : f_A_isDealer h (iI g) (iI f) (iI w) = some (if kindP g f w then 1 else 0) := by
  unfold f_A_isDealer
  rw [show (0 : Int32) = iI 0 from lI0, lI5, lI1, lI9, lI3, inRange hg ⟨by decide, by decide⟩ ⟨by decide, by decide⟩, Option.bind_some]
  by_cases c1 : 0 ≤ g ∧ g ≤ 5
  · rw [if_pos c1, if_neg (by decide), inRange hf ⟨by decide, by decide⟩ ⟨by decide, by decide⟩, Option.bind_some]
    by_cases c2 : 1 ≤ f ∧ f ≤ 9
    · rw [if_pos c2, if_neg (by decide), inRange hw ⟨by decide, by decide⟩ ⟨by decide, by decide⟩, Option.bind_some]
      by_cases c3 : 0 ≤ w ∧ w ≤ 3
      · rw [if_pos c3, if_neg (by decide), if_pos ⟨c1, c2, c3⟩]
      · rw [if_neg c3, if_pos (by decide), if_neg (fun q => c3 q.2.2)]
    · rw [if_neg c2, if_pos (by decide), if_neg (fun q => c2 q.2.1)]
  · rw [if_neg c1, if_pos (by decide), if_neg (fun q => c1 q.1)]
abbrev setP (j v : Int) : Prop := (0 ≤ j ∧ j ≤ 5) ∧ 0 ≤ v ∧ v ≤ maxS j.toNat
theorem maxS_b (j : Nat) : 0 ≤ maxS j ∧ maxS j ≤ 50 := by unfold maxS; split <;> omega
theorem a_isSet {j v : Int} (hj : InR j) (hv : InR v) : f_A_isSetting h (iI j) (iI v) = some (if setP j v then 1 else 0) := by
  by_cases c1 : 0 ≤ j ∧ j ≤ 5
  · have e := isSet (h := h) (j := j.toNat) (by omega) hv
    rw [show ((j.toNat : Nat) : Int) = j by omega] at e
    rw [e]
    by_cases c2 : 0 ≤ v ∧ v ≤ maxS j.toNat
    · rw [if_pos c2, if_pos ⟨c1, c2⟩]
    · rw [if_neg c2, if_neg (fun q => c2 q.2)]
  · unfold f_A_isSetting
    rw [show (0 : Int32) = iI 0 from lI0, lI5, inRange hj ⟨by decide, by decide⟩ ⟨by decide, by decide⟩, Option.bind_some, if_neg c1, if_pos lI0.symm.symm, if_neg (fun q => c1 q.1)]
end ASK
