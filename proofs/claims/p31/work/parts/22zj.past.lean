/-! what is remembered, on both sides -/
def PastC (h : HP) (ys : Nat → Nat → Int) (c x : Nat) : Prop := c ≤ 14 ∧ x ≤ 14 ∧ h 192 1 = iI x ∧ h 192 2 = iI c ∧ ∀ j : Nat, j < c → RepS h (20 + 10 * ((x + 14 - c + j) % 14)) (ys j) ∧ h (20 + 10 * ((x + 14 - c + j) % 14)) 13 = iI (ys j 188)
def ysN (ys : Nat → Nat → Int) (c : Nat) (z : Nat → Int) : Nat → Nat → Int := fun j => if c < 14 then (if j = c then z else ys j) else (if j = 13 then z else ys (j + 1))
def cN (c : Nat) : Nat := if c < 14 then c + 1 else 14
theorem cN_le (c : Nat) (h : c ≤ 14) : cN c ≤ 14 := by unfold cN; split <;> omega
section PAST
variable {h g : HP} {a b p : Nat} {z : Nat → Int} {B : Int} {ys : Nat → Nat → Int} {c x : Nat}
theorem PastC.fr (C : PastC h ys c x) (e : ∀ i, ((20 ≤ i ∧ i < 160) ∨ i = 192) → g i = h i) : PastC g ys c x := by
  obtain ⟨i1, i2, i3, i4, i6⟩ := C
  refine ⟨i1, i2, by rw [e 192 (by omega)]; exact i3, by rw [e 192 (by omega)]; exact i4, fun j hj => ?_⟩
  obtain ⟨j3, j4⟩ := i6 j hj
  refine ⟨j3.fr (fun i a1 a2 => e i (Or.inl (by omega))), ?_⟩
  rw [e _ (Or.inl (by omega))]; exact j4
theorem flm14 {x : Nat} (hx : x ≤ 14) : f_J_floorMod h (iI x) 14 = some (iI ((x % 14 : Nat) : Int)) := by
  unfold f_J_floorMod
  rcases (by omega : x = 0 ∨ x = 1 ∨ x = 2 ∨ x = 3 ∨ x = 4 ∨ x = 5 ∨ x = 6 ∨ x = 7 ∨ x = 8 ∨ x = 9 ∨ x = 10 ∨ x = 11 ∨ x = 12 ∨ x = 13 ∨ x = 14) with rfl | rfl | rfl | rfl | rfl | rfl | rfl | rfl | rfl | rfl | rfl | rfl | rfl | rfl | rfl <;> decide
theorem flm14m {x : Nat} (hx : x ≤ 14) : f_J_floorMod h (iI x - 1) 14 = some (iI (((x + 13) % 14 : Nat) : Int)) := by
  unfold f_J_floorMod
  rcases (by omega : x = 0 ∨ x = 1 ∨ x = 2 ∨ x = 3 ∨ x = 4 ∨ x = 5 ∨ x = 6 ∨ x = 7 ∨ x = 8 ∨ x = 9 ∨ x = 10 ∨ x = 11 ∨ x = 12 ∨ x = 13 ∨ x = 14) with rfl | rfl | rfl | rfl | rfl | rfl | rfl | rfl | rfl | rfl | rfl | rfl | rfl | rfl | rfl <;> decide
theorem bsp {k : Nat} (hk : k < 14) : BS (20 + 10 * k) := ⟨by omega, by omega⟩
theorem fldp (k : Nat) : fld (fld 192 0) k = 20 + 10 * k := rfl
theorem c_remember (C : PastC h ys c x) (R : RepS h 0 z) (h13 : h 0 13 = iI (z 188)) : ∃ h1 : HP, f_P_remember h 192 0 = some h1 ∧ PastC h1 (ysN ys c z) (cN c) (x % 14 + 1) ∧ ∀ i, ¬ (20 ≤ i ∧ i < 160) → i ≠ 192 → h1 i = h i := by
  obtain ⟨i1, i2, i3, i4, i6⟩ := C
  obtain ⟨h1, g1, g2, g3, g4⟩ := s_copy (b := 0) (b' := 20 + 10 * (x % 14)) ⟨by decide, by decide⟩ (bsp (by omega)) (by omega) R
  have hc := cN_le c i1
  have e1 : (iI ((x % 14 : Nat) : Int)).toNatClampNeg = x % 14 := by rw [iI_cl (by omega) (by omega)]; omega
  have emin : f_J_min (hset h1 192 1 (iI (((x % 14 : Nat) : Int) + 1))) (iI c + 1) 14 = some (iI (cN c)) := by
    unfold f_J_min cN
    rw [lI1, iI_add, lI14, tLt (by omega) (by omega) (by omega) (by omega)]
    by_cases q : c < 14
    · rw [if_neg (by omega), if_pos q]
      rfl
    · rw [if_pos (by omega), if_neg q]
      rfl
  have e2 : hset h1 192 1 (iI (((x % 14 : Nat) : Int) + 1)) 192 2 = iI c := by rw [hset_s, upd_n _ _ (by decide), g4 192 (by omega)]; exact i4
  refine ⟨hset (hset h1 192 1 (iI (((x % 14 : Nat) : Int) + 1))) 192 2 (iI (cN c)), ?_, ⟨hc, by omega, ?_, ?_, fun j hj => ?_⟩, fun i hi hn => ?_⟩
  · unfold f_P_remember
    rw [i3, flm14 i2, Option.bind_some, iI_ib (by omega) (by omega) (by omega), if_pos rfl, e1, fldp, g1, Option.bind_some, lI1, iI_add, Option.bind_some, e2, ← lI1, emin, Option.bind_some, Option.bind_some]
  · rw [hset_s, upd_n _ _ (by decide), hset_s, upd_s]
    rfl
  · rw [hset_s, upd_s]
  · have old : ∀ k, (k < 14 ∧ k ≠ x % 14) → (hset (hset h1 192 1 (iI (((x % 14 : Nat) : Int) + 1))) 192 2 (iI (cN c))) (20 + 10 * k) 13 = h (20 + 10 * k) 13 ∧ ∀ y, RepS h (20 + 10 * k) y → RepS (hset (hset h1 192 1 (iI (((x % 14 : Nat) : Int) + 1))) 192 2 (iI (cN c))) (20 + 10 * k) y := fun k hk => by
      have e : ∀ i, 20 + 10 * k ≤ i → i < 20 + 10 * k + 10 → (hset (hset h1 192 1 (iI (((x % 14 : Nat) : Int) + 1))) 192 2 (iI (cN c))) i = h i := fun i j1 j2 => by
        rw [hset_n _ _ _ (by omega), hset_n _ _ _ (by omega), g4 i (by omega)]
      exact ⟨by rw [e _ (by omega) (by omega)], fun y hy => hy.fr e⟩
    have new : RepS (hset (hset h1 192 1 (iI (((x % 14 : Nat) : Int) + 1))) 192 2 (iI (cN c))) (20 + 10 * (x % 14)) z ∧ (hset (hset h1 192 1 (iI (((x % 14 : Nat) : Int) + 1))) 192 2 (iI (cN c))) (20 + 10 * (x % 14)) 13 = iI (z 188) := by
      refine ⟨g2.fr (fun i j1 j2 => by rw [hset_n _ _ _ (by omega), hset_n _ _ _ (by omega)]), ?_⟩
      rw [hset_n _ _ _ (by omega), hset_n _ _ _ (by omega), g3, h13]
    by_cases q : c < 14
    · have ec : cN c = c + 1 := if_pos q
      rw [ec] at hj
      have ei : (x % 14 + 1 + 14 - cN c + j) % 14 = (x + 14 - c + j) % 14 := by rw [ec]; omega
      rw [ei]
      by_cases q2 : j = c
      · have ey : ysN ys c z j = z := by unfold ysN; rw [if_pos q, if_pos q2]
        rw [ey, show (x + 14 - c + j) % 14 = x % 14 by omega]
        exact new
      · have ey : ysN ys c z j = ys j := by unfold ysN; rw [if_pos q, if_neg q2]
        have o := old ((x + 14 - c + j) % 14) ⟨by omega, by omega⟩
        have i6j := i6 j (by omega)
        rw [ey]
        exact ⟨o.2 _ i6j.1, by rw [o.1]; exact i6j.2⟩
    · have ec : cN c = 14 := if_neg q
      rw [ec] at hj
      by_cases q2 : j = 13
      · have ey : ysN ys c z j = z := by unfold ysN; rw [if_neg q, if_pos q2]
        have ei : (x % 14 + 1 + 14 - cN c + j) % 14 = x % 14 := by rw [ec]; omega
        rw [ey, ei]
        exact new
      · have ey : ysN ys c z j = ys (j + 1) := by unfold ysN; rw [if_neg q, if_neg q2]
        have ei : (x % 14 + 1 + 14 - cN c + j) % 14 = (x + 14 - c + (j + 1)) % 14 := by rw [ec]; omega
        have o := old ((x + 14 - c + (j + 1)) % 14) ⟨by omega, by omega⟩
        have i6j := i6 (j + 1) (by omega)
        rw [ey, ei]
        exact ⟨o.2 _ i6j.1, by rw [o.1]; exact i6j.2⟩
  · rw [hset_n _ _ _ hn, hset_n _ _ _ hn, g4 i (by omega)]
theorem ysN_ok (O : ∀ j, j < c → OKz B (ys j)) (hc : c ≤ 14) (K : OKz B z) : ∀ j, j < cN c → OKz B (ysN ys c z j) := by
  intro j hj
  unfold ysN
  by_cases q : c < 14
  · have ec : cN c = c + 1 := if_pos q
    rw [if_pos q]
    by_cases q2 : j = c
    · rw [if_pos q2]; exact K
    · rw [if_neg q2]; exact O j (by omega)
  · have ec : cN c = 14 := if_neg q
    rw [if_neg q]
    by_cases q2 : j = 13
    · rw [if_pos q2]; exact K
    · rw [if_neg q2]; exact O (j + 1) (by omega)
end PAST
