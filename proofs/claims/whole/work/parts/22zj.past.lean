/-! what is remembered, on both sides -/
def PastC (h : HP) (ys : Nat → Nat → Int) (c x : Nat) : Prop := c ≤ 14 ∧ x ≤ 14 ∧ h 192 1 = iI x ∧ h 192 2 = iI c ∧ ∀ j : Nat, j < c → RepS h (20 + 10 * ((x + 14 - c + j) % 14)) (ys j) ∧ h (20 + 10 * ((x + 14 - c + j) % 14)) 13 = iI (ys j 188)
def PastM (h : HP) (ys : Nat → Nat → Int) (c : Nat) : Prop := h 200 5 = iI c ∧ ∀ j : Nat, j < c → ∀ m : Nat, m < 196 → h 204 (196 * j + m) = iI (ys j m)
def ysN (ys : Nat → Nat → Int) (c : Nat) (z : Nat → Int) : Nat → Nat → Int := fun j => if c < 14 then (if j = c then z else ys j) else (if j = 13 then z else ys (j + 1))
def cN (c : Nat) : Nat := if c < 14 then c + 1 else 14
theorem cN_le (c : Nat) (h : c ≤ 14) : cN c ≤ 14 := by unfold cN; split <;> omega
section PAST
variable {h g : HP} {a b p : Nat} {z : Nat → Int} {B : Int} {ys : Nat → Nat → Int} {c x : Nat}
theorem PastI.cl (P : PastI B h ys c x) : PastC h ys c x := ⟨P.1, P.2.1, P.2.2.1, P.2.2.2.1, fun j hj => (P.2.2.2.2.2 j hj).2.2⟩
theorem PastI.md (P : PastI B h ys c x) : PastM h ys c := ⟨P.2.2.2.2.1, fun j hj => (P.2.2.2.2.2 j hj).2.1⟩
theorem PastI.mk (C : PastC h ys c x) (M : PastM h ys c) (O : ∀ j, j < c → OKz B (ys j)) : PastI B h ys c x := ⟨C.1, C.2.1, C.2.2.1, C.2.2.2.1, M.1, fun j hj => ⟨O j hj, M.2 j hj, C.2.2.2.2 j hj⟩⟩
theorem PastC.fr (C : PastC h ys c x) (e : ∀ i, ((20 ≤ i ∧ i < 160) ∨ i = 192) → g i = h i) : PastC g ys c x := by
  obtain ⟨i1, i2, i3, i4, i6⟩ := C
  refine ⟨i1, i2, by rw [e 192 (by omega)]; exact i3, by rw [e 192 (by omega)]; exact i4, fun j hj => ?_⟩
  obtain ⟨j3, j4⟩ := i6 j hj
  refine ⟨j3.fr (fun i a1 a2 => e i (Or.inl (by omega))), ?_⟩
  rw [e _ (Or.inl (by omega))]; exact j4
theorem PastM.fr (M : PastM h ys c) (e : g 204 = h 204) (e5 : g 200 5 = h 200 5) : PastM g ys c := ⟨by rw [e5]; exact M.1, fun j hj m hm => by rw [e]; exact M.2 j hj m hm⟩
theorem flm14 {x : Nat} (hx : x ≤ 14) : f_J_floorMod h (iI x) 14 = some (iI ((x % 14 : Nat) : Int)) := by
  unfold f_J_floorMod
  rcases (by omega : x = 0 ∨ x = 1 ∨ x = 2 ∨ x = 3 ∨ x = 4 ∨ x = 5 ∨ x = 6 ∨ x = 7 ∨ x = 8 ∨ x = 9 ∨ x = 10 ∨ x = 11 ∨ x = 12 ∨ x = 13 ∨ x = 14) with rfl | rfl | rfl | rfl | rfl | rfl | rfl | rfl | rfl | rfl | rfl | rfl | rfl | rfl | rfl <;> decide
theorem flm14m {x : Nat} (hx : x ≤ 14) : f_J_floorMod h (iI x - 1) 14 = some (iI (((x + 13) % 14 : Nat) : Int)) := by
  unfold f_J_floorMod
  rcases (by omega : x = 0 ∨ x = 1 ∨ x = 2 ∨ x = 3 ∨ x = 4 ∨ x = 5 ∨ x = 6 ∨ x = 7 ∨ x = 8 ∨ x = 9 ∨ x = 10 ∨ x = 11 ∨ x = 12 ∨ x = 13 ∨ x = 14) with rfl | rfl | rfl | rfl | rfl | rfl | rfl | rfl | rfl | rfl | rfl | rfl | rfl | rfl | rfl <;> decide
theorem bsp {k : Nat} (hk : k < 14) : BS (20 + 10 * k) := ⟨by omega, by omega⟩
theorem fldp (k : Nat) : fld (fld 192 0) k = 20 + 10 * k := rfl
theorem c_remember (C : PastC h ys c x) (R : RepS h 0 z) (h13 : h 0 13 = iI (z 188)) : ∃ h1 : HP, f_P_remember h 192 0 = some h1 ∧ PastC h1 (ysN ys c z) (cN c) (x % 14 + 1) ∧ ∀ i, ¬ (20 ≤ i ∧ i < 160) → i ≠ 192 → h1 i = h i := by
  obtain ⟨i1, i2, i3, i4, i6⟩ := C
  obtain ⟨h1, g1, g2, g3, g4⟩ := s_copy (b := 0) (b' := 20 + 10 * (x % 14)) ⟨by decide, by decide⟩ (bsp (by omega)) (by omega) R
  have hc := cN_le c i1
  have e1 : (iI ((x % 14 : Nat) : Int)).toNatClampNeg = x % 14 := by rw [iI_cl (by omega) (by omega)]; omega
  have emin : f_J_min (hset h1 192 1 (iI (((x % 14 : Nat) : Int) + 1))) (iI c + 1) 14 = some (iI (cN c)) := by
    unfold f_J_min cN
    rw [lI1, iI_add, lI14, tLt (by omega) (by omega) (by omega) (by omega)]
    by_cases q : c < 14
    · rw [if_neg (by omega), if_pos q]
      rfl
    · rw [if_pos (by omega), if_neg q]
      rfl
  have e2 : hset h1 192 1 (iI (((x % 14 : Nat) : Int) + 1)) 192 2 = iI c := by rw [hset_s, upd_n _ _ (by decide), g4 192 (by omega)]; exact i4
  refine ⟨hset (hset h1 192 1 (iI (((x % 14 : Nat) : Int) + 1))) 192 2 (iI (cN c)), ?_, ⟨hc, by omega, ?_, ?_, fun j hj => ?_⟩, fun i hi hn => ?_⟩
  · unfold f_P_remember
    rw [i3, flm14 i2, Option.bind_some, iI_ib (by omega) (by omega) (by omega), if_pos rfl, e1, fldp, g1, Option.bind_some, lI1, iI_add, Option.bind_some, e2, ← lI1, emin, Option.bind_some, Option.bind_some]
  · rw [hset_s, upd_n _ _ (by decide), hset_s, upd_s]
    rfl
  · rw [hset_s, upd_s]
  · have old : ∀ k, (k < 14 ∧ k ≠ x % 14) → (hset (hset h1 192 1 (iI (((x % 14 : Nat) : Int) + 1))) 192 2 (iI (cN c))) (20 + 10 * k) 13 = h (20 + 10 * k) 13 ∧ ∀ y, RepS h (20 + 10 * k) y → RepS (hset (hset h1 192 1 (iI (((x % 14 : Nat) : Int) + 1))) 192 2 (iI (cN c))) (20 + 10 * k) y := fun k hk => by
      have e : ∀ i, 20 + 10 * k ≤ i → i < 20 + 10 * k + 10 → (hset (hset h1 192 1 (iI (((x % 14 : Nat) : Int) + 1))) 192 2 (iI (cN c))) i = h i := fun i j1 j2 => by
        rw [hset_n _ _ _ (by omega), hset_n _ _ _ (by omega), g4 i (by omega)]
      exact ⟨by rw [e _ (by omega) (by omega)], fun y hy => hy.fr e⟩
    have new : RepS (hset (hset h1 192 1 (iI (((x % 14 : Nat) : Int) + 1))) 192 2 (iI (cN c))) (20 + 10 * (x % 14)) z ∧ (hset (hset h1 192 1 (iI (((x % 14 : Nat) : Int) + 1))) 192 2 (iI (cN c))) (20 + 10 * (x % 14)) 13 = iI (z 188) := by
      refine ⟨g2.fr (fun i j1 j2 => by rw [hset_n _ _ _ (by omega), hset_n _ _ _ (by omega)]), ?_⟩
      rw [hset_n _ _ _ (by omega), hset_n _ _ _ (by omega), g3, h13]
    by_cases q : c < 14
    · have ec : cN c = c + 1 := if_pos q
      rw [ec] at hj
      have ei : (x % 14 + 1 + 14 - cN c + j) % 14 = (x + 14 - c + j) % 14 := by rw [ec]; omega
      rw [ei]
      by_cases q2 : j = c
      · have ey : ysN ys c z j = z := by unfold ysN; rw [if_pos q, if_pos q2]
        rw [ey, show (x + 14 - c + j) % 14 = x % 14 by omega]
        exact new
      · have ey : ysN ys c z j = ys j := by unfold ysN; rw [if_pos q, if_neg q2]
        have o := old ((x + 14 - c + j) % 14) ⟨by omega, by omega⟩
        have i6j := i6 j (by omega)
        rw [ey]
        exact ⟨o.2 _ i6j.1, by rw [o.1]; exact i6j.2⟩
    · have ec : cN c = 14 := if_neg q
      rw [ec] at hj
      by_cases q2 : j = 13
      · have ey : ysN ys c z j = z := by unfold ysN; rw [if_neg q, if_pos q2]
        have ei : (x % 14 + 1 + 14 - cN c + j) % 14 = x % 14 := by rw [ec]; omega
        rw [ey, ei]
        exact new
      · have ey : ysN ys c z j = ys (j + 1) := by unfold ysN; rw [if_neg q, if_neg q2]
        have ei : (x % 14 + 1 + 14 - cN c + j) % 14 = (x + 14 - c + (j + 1)) % 14 := by rw [ec]; omega
        have o := old ((x + 14 - c + (j + 1)) % 14) ⟨by omega, by omega⟩
        have i6j := i6 (j + 1) (by omega)
        rw [ey, ei]
        exact ⟨o.2 _ i6j.1, by rw [o.1]; exact i6j.2⟩
  · rw [hset_n _ _ _ hn, hset_n _ _ _ hn, g4 i (by omega)]
theorem m_remember (M : PastM h ys c) (hc : c ≤ 14) (R : RepM h 201 z) : ∃ h1 : HP, f_M_remember h 200 = some h1 ∧ PastM h1 (ysN ys c z) (cN c) ∧ (∀ i, i ≠ 204 → i ≠ 200 → h1 i = h i) ∧ ∀ k, k ≠ 5 → h1 200 k = h 200 k := by
  obtain ⟨i1, i2⟩ := M
  unfold f_M_remember
  rw [i1, lI14, tEq (by omega) (by omega) (by omega) (by omega)]
  by_cases q : c < 14
  · obtain ⟨h1, g1, g2, g3, g4⟩ := m_rem52 q 196 0 4096 h (by omega) (by omega) i1
    rw [if_neg (by omega), f_M_remember_50, lI0]
    refine ⟨_, g1, ⟨by rw [hset_s, upd_s]; unfold cN; rw [if_pos q]; rfl, fun j hj m hm => ?_⟩, fun i n1 n2 => by rw [hset_n _ _ _ n2, g2 i n1], fun k hk => by rw [hset_s, upd_n _ _ hk, g2 200 (by decide)]⟩
    have ec : cN c = c + 1 := if_pos q
    rw [ec] at hj
    rw [hset_n _ _ _ (by decide)]
    by_cases q2 : j = c
    · have ey : ysN ys c z j = z := by unfold ysN; rw [if_pos q, if_pos q2]
      rw [ey, q2, g4 m (by omega) hm, Nat.zero_add]
      exact R m hm
    · have ey : ysN ys c z j = ys j := by unfold ysN; rw [if_pos q, if_neg q2]
      rw [ey, g3 (196 * j + m) (by omega)]
      exact i2 j (by omega) m hm
  · obtain rfl : c = 14 := by omega
    obtain ⟨h0, g1, g2, g3, g4⟩ := m_rem11 (c := 14) rfl 2548 0 4096 h (by omega) (by omega) i1
    have j5 : (hset h0 200 5 (iI (((14 : Nat) : Int) - 1))) 200 5 = iI ((13 : Nat) : Int) := by rw [hset_s, upd_s]; rfl
    obtain ⟨h1, k1, k2, k3, k4⟩ := m_rem52 (c := 13) (by decide) 196 0 4096 (hset h0 200 5 (iI (((14 : Nat) : Int) - 1))) (by omega) (by omega) j5
    rw [if_pos (by decide), lI0]
    have g1' : f_M_remember_11 4096 200 (iI 0) h = _ := g1
    rw [g1', f_M_remember_50, lI0]
    refine ⟨_, k1, ⟨by rw [hset_s, upd_s]; rfl, fun j hj m hm => ?_⟩, fun i n1 n2 => by rw [hset_n _ _ _ n2, k2 i n1, hset_n _ _ _ n2, g2 i n1], fun k hk => by rw [hset_s, upd_n _ _ hk, k2 200 (by decide), hset_s, upd_n _ _ hk, g2 200 (by decide)]⟩
    have hj14 : j < 14 := hj
    rw [hset_n _ _ _ (by decide)]
    by_cases q2 : j = 13
    · have ey : ysN ys 14 z j = z := by unfold ysN; rw [if_neg (by decide), if_pos q2]
      rw [ey, q2, k4 m (by omega) hm, Nat.zero_add, hset_n _ _ _ (by decide), g2 201 (by decide)]
      exact R m hm
    · have ey : ysN ys 14 z j = ys (j + 1) := by unfold ysN; rw [if_neg (by decide), if_neg q2]
      rw [ey, k3 (196 * j + m) (by omega), hset_n _ _ _ (by decide)]
      have e := g4 (196 * j + m) (by omega) (by omega)
      rw [Nat.zero_add] at e
      rw [e, show 196 + (196 * j + m) = 196 * (j + 1) + m by omega]
      exact i2 (j + 1) (by omega) m hm
theorem ysN_ok (O : ∀ j, j < c → OKz B (ys j)) (hc : c ≤ 14) (K : OKz B z) : ∀ j, j < cN c → OKz B (ysN ys c z j) := by
  intro j hj
  unfold ysN
  by_cases q : c < 14
  · have ec : cN c = c + 1 := if_pos q
    rw [if_pos q]
    by_cases q2 : j = c
    · rw [if_pos q2]; exact K
    · rw [if_neg q2]; exact O j (by omega)
  · have ec : cN c = 14 := if_neg q
    rw [if_neg q]
    by_cases q2 : j = 13
    · rw [if_pos q2]; exact K
    · rw [if_neg q2]; exact O (j + 1) (by omega)
/-- an action: remembered on both sides, then done on both -/
theorem act {B' : Int} (I : INV B h) (MI : MainI B h z) (hB : B ≤ B') : ∃ h1, f_P_remember h 192 0 = some h1 ∧ RepA h1 182 0 184 z ∧ h1 0 13 = iI (z 188) ∧ ∀ z' x h2, RepA h2 182 0 184 z' → h2 0 13 = iI (z' 188) → (∀ i, ¬ own 0 184 i → h2 i = h1 i) → OKz B' z' → ∃ h3, RepM (hset h2 211 0 x) 201 z ∧ f_M_remember (hset (hset h2 211 0 x) 200 0 0) 200 = some h3 ∧ RepM h3 201 z ∧ ∀ h4, RepM h4 201 z' → (∀ i, i ≠ 201 → i ≠ 207 → i ≠ 208 → i ≠ 209 → h4 i = h3 i) → (h4 200 0 = 0 ∧ h4 211 0 = x ∧ INV B' h4) := by
  obtain ⟨-, ⟨ys, c, y, PI⟩, ⟨ks, SI⟩, ⟨t, n, TI⟩⟩ := I
  obtain ⟨RA, RM, h13, K⟩ := id MI
  obtain ⟨h1, g1, g2, g3⟩ := c_remember PI.cl RA.2.1 h13
  have nown : ∀ i, ¬ i < 10 → ¬ (185 ≤ i ∧ i ≤ 187) → ¬ own 0 184 i := fun i n1 n2 q => by unfold own at q; omega
  refine ⟨h1, g1, RA.fr (fun i hi => g3 i (by unfold own at hi; omega) (by unfold own at hi; omega)), by rw [g3 0 (by omega) (by omega)]; exact h13, fun z' x h2 RA2 e13 fr2 K2 => ?_⟩
  have f2 : ∀ i, ¬ i < 10 → ¬ (185 ≤ i ∧ i ≤ 187) → i ≠ 211 → i ≠ 200 → (hset (hset h2 211 0 x) 200 0 0) i = h1 i := fun i n1 n2 n3 n4 => by
    rw [hset_n _ _ _ n4, hset_n _ _ _ n3, fr2 i (nown i n1 n2)]
  have s2 : ∀ k, k ≠ 0 → (hset (hset h2 211 0 x) 200 0 0) 200 k = h 200 k := fun k hk => by
    rw [hset_s, upd_n _ _ hk, hset_n _ _ _ (by decide), fr2 200 (nown _ (by decide) (by decide)), g3 200 (by omega) (by omega)]
  have f3 : ∀ i, ¬ i < 10 → ¬ (185 ≤ i ∧ i ≤ 187) → ¬ (20 ≤ i ∧ i < 160) → i ≠ 192 → i ≠ 211 → i ≠ 200 → (hset (hset h2 211 0 x) 200 0 0) i = h i := fun i n1 n2 n3 n4 n5 n6 => by rw [f2 i n1 n2 n5 n6, g3 i n3 n4]
  have RM3 : RepM (hset (hset h2 211 0 x) 200 0 0) 201 z := RM.fr (f3 201 (by omega) (by omega) (by omega) (by omega) (by omega) (by omega))
  have PM3 : PastM (hset (hset h2 211 0 x) 200 0 0) ys c := PI.md.fr (f3 204 (by omega) (by omega) (by omega) (by omega) (by omega) (by omega)) (s2 5 (by decide))
  obtain ⟨h3, k1, k2, k3, k4⟩ := m_remember PM3 PI.1 RM3
  refine ⟨h3, RM.fr (by rw [hset_n _ _ _ (by decide), fr2 201 (nown _ (by decide) (by decide)), g3 201 (by omega) (by omega)]), k1, RM3.fr (k3 201 (by decide) (by decide)), fun h4 R4 e4 => ?_⟩
  have s4 : ∀ k, k ≠ 5 → h4 200 k = (hset (hset h2 211 0 x) 200 0 0) 200 k := fun k hk => by rw [e4 200 (by decide) (by decide) (by decide) (by decide), k4 k hk]
  have f4 : ∀ i, i ≠ 201 → i ≠ 204 → i ≠ 207 → i ≠ 208 → i ≠ 209 → i ≠ 200 → i ≠ 211 → h4 i = h2 i := fun i n1 n2 n3 n4 n5 n6 n7 => by rw [e4 i n1 n3 n4 n5, k3 i n2 n6, hset_n _ _ _ n6, hset_n _ _ _ n7]
  have f5 : ∀ i, i ≠ 201 → i ≠ 204 → i ≠ 207 → i ≠ 208 → i ≠ 209 → i ≠ 200 → i ≠ 211 → ¬ i < 10 → ¬ (185 ≤ i ∧ i ≤ 187) → h4 i = h1 i := fun i n1 n2 n3 n4 n5 n6 n7 n8 n9 => by rw [f4 i n1 n2 n3 n4 n5 n6 n7, fr2 i (nown i n8 n9)]
  have f6 : ∀ i, i ≠ 201 → i ≠ 204 → i ≠ 207 → i ≠ 208 → i ≠ 209 → i ≠ 200 → i ≠ 211 → ¬ i < 10 → ¬ (185 ≤ i ∧ i ≤ 187) → ¬ (20 ≤ i ∧ i < 160) → i ≠ 192 → h4 i = h i := fun i n1 n2 n3 n4 n5 n6 n7 n8 n9 n10 n11 => by rw [f5 i n1 n2 n3 n4 n5 n6 n7 n8 n9, g3 i n10 n11]
  refine ⟨?_, ?_, ⟨z', ?_, R4, ?_, K2⟩, ⟨ysN ys c z, cN c, y % 14 + 1, PastI.mk ?_ ?_ (fun j hj => (ysN_ok (fun j hj => (PI.2.2.2.2.2 j hj).1) PI.1 K j hj).mono hB)⟩, ⟨ks, (SI.mono hB).fr (fun i hi => f6 i (by omega) (by omega) (by omega) (by omega) (by omega) (by omega) (by omega) (by omega) (by omega) (by omega) (by omega))⟩, ⟨t, n, TI.fr ?_ ?_ (f6 198 (by omega) (by omega) (by omega) (by omega) (by omega) (by omega) (by omega) (by omega) (by omega) (by omega) (by omega)) (f6 210 (by omega) (by omega) (by omega) (by omega) (by omega) (by omega) (by omega) (by omega) (by omega) (by omega) (by omega))⟩⟩
  · rw [s4 0 (by decide), hset_s, upd_s]
  · rw [e4 211 (by decide) (by decide) (by decide) (by decide), k3 211 (by decide) (by decide), hset_n _ _ _ (by decide), hset_s, upd_s]
  · exact RA2.fr (fun i hi => by unfold own at hi; exact f4 i (by omega) (by omega) (by omega) (by omega) (by omega) (by omega) (by omega))
  · rw [f4 0 (by omega) (by omega) (by omega) (by omega) (by omega) (by omega) (by omega)]; exact e13
  · exact g2.fr (fun i hi => f5 i (by omega) (by omega) (by omega) (by omega) (by omega) (by omega) (by omega) (by omega) (by omega))
  · exact k2.fr (e4 204 (by decide) (by decide) (by decide) (by decide)) (by rw [e4 200 (by decide) (by decide) (by decide) (by decide)])
  · rw [f6 197 (by omega) (by omega) (by omega) (by omega) (by omega) (by omega) (by omega) (by omega) (by omega) (by omega) (by omega)]
  · rw [s4 12 (by decide), s2 12 (by decide)]
end PAST
