/-! a dealer set elsewhere; the reasons against a swap -/
def zst (z : Nat → Int) (d : Nat) (w f : Int) : Nat → Int := uI (uI z (127 + 6 * d) w) (128 + 6 * d) f
theorem zst_w (z : Nat → Int) (d : Nat) (w f : Int) : zst z d w f (127 + 6 * d) = w := by unfold zst; rw [uI_n _ _ (by omega), uI_s]
theorem zst_f (z : Nat → Int) (d : Nat) (w f : Int) : zst z d w f (128 + 6 * d) = f := uI_s _ _ _
theorem zst_n (z : Nat → Int) (d : Nat) (w f : Int) {k : Nat} (h1 : k ≠ 127 + 6 * d) (h2 : k ≠ 128 + 6 * d) : zst z d w f k = z k := by unfold zst; rw [uI_n _ _ h2, uI_n _ _ h1]
theorem wf_zst {z : Nat → Int} (F : WF z) {d : Nat} (hd : d < 10) (h2 : (d : Int) < z 185) {w f : Int} (hp : (w = -1 ∧ f = -1) ∨ (0 ≤ w ∧ w < z 184 ∧ 0 ≤ f ∧ f + z (125 + 6 * d) ≤ z (31 * w.toNat) ∧ frZ z w f (z (125 + 6 * d)) d d = true)) : WF (zst z d w f) := by
  have hfz := frZ_is F w f (z (125 + 6 * d)) d d
  obtain ⟨g1, g2, g3, g4, g5, g6, g7, g8, g9, g10⟩ := id F
  have n184 : zst z d w f 184 = z 184 := zst_n _ _ _ _ (by omega) (by omega)
  have n185 : zst z d w f 185 = z 185 := zst_n _ _ _ _ (by omega) (by omega)
  have n187 : zst z d w f 187 = z 187 := zst_n _ _ _ _ (by omega) (by omega)
  have n191 : zst z d w f 191 = z 191 := zst_n _ _ _ _ (by omega) (by omega)
  have n195 : zst z d w f 195 = z 195 := zst_n _ _ _ _ (by omega) (by omega)
  have nl : ∀ v : Nat, v < 4 → zst z d w f (31 * v) = z (31 * v) := fun v hv => zst_n _ _ _ _ (by omega) (by omega)
  have n124 : ∀ e : Nat, zst z d w f (124 + 6 * e) = z (124 + 6 * e) := fun e => zst_n _ _ _ _ (by omega) (by omega)
  have n125 : ∀ e : Nat, zst z d w f (125 + 6 * e) = z (125 + 6 * e) := fun e => zst_n _ _ _ _ (by omega) (by omega)
  have n126 : ∀ e : Nat, zst z d w f (126 + 6 * e) = z (126 + 6 * e) := fun e => zst_n _ _ _ _ (by omega) (by omega)
  have n127 : ∀ e : Nat, e ≠ d → zst z d w f (127 + 6 * e) = z (127 + 6 * e) := fun e he => zst_n _ _ _ _ (by omega) (by omega)
  have n128 : ∀ e : Nat, e ≠ d → zst z d w f (128 + 6 * e) = z (128 + 6 * e) := fun e he => zst_n _ _ _ _ (by omega) (by omega)
  have hdd := (g6 d hd).2.1 h2
  refine ⟨by rw [n184]; exact g1, by rw [n185]; exact g2, by rw [n187]; exact g3, fun v hv => by rw [nl v hv]; exact g4 v hv, fun v m hv hm => by rw [zst_n _ _ _ _ (by omega) (by omega)]; exact g5 v m hv hm, fun e he => by rw [n124, n125, n126, n185]; exact g6 e he, fun e he h3 => ?_, fun e k he hk hek h3 h4 h5 h6 => ?_, fun j hj => by rw [zst_n _ _ _ _ (by omega) (by omega)]; exact g9 j hj, by rw [n191, n195]; exact g10⟩
  · rw [n185] at h3
    by_cases q : e = d
    · rw [q, zst_w, zst_f, n184, n125]
      rcases hp with h | ⟨p1, p2, p3, p4, p5⟩
      · exact Or.inl h
      · exact Or.inr ⟨p1, p2, p3, by rw [nl _ (by omega)]; exact p4⟩
    · rw [n127 e q, n128 e q, n184, n125]
      rcases g7 e he h3 with h | ⟨p1, p2, p3, p4⟩
      · exact Or.inl h
      · exact Or.inr ⟨p1, p2, p3, by rw [nl _ (by omega)]; exact p4⟩
  · rw [n185] at h3 h4
    rw [n125, n125]
    by_cases q1 : e = d
    · have q2 : k ≠ d := fun y => hek (q1.trans y.symm)
      rw [q1, zst_w] at h5 h6
      rw [n127 k q2] at h6
      rw [q1, zst_f, n128 k q2]
      rcases hp with ⟨p1, -⟩ | ⟨p1, p2, p3, p4, p5⟩
      · exact absurd p1 h5
      · have := (hfz.mp p5) k h4
        have hk1 := (g6 k hk).2.1 h4
        by_cases y : f < z (128 + 6 * k) + z (125 + 6 * k) ∧ z (128 + 6 * k) < f + z (125 + 6 * d)
        · exact absurd ⟨q2, q2, h6.symm, y.1, y.2⟩ this
        · omega
    · by_cases q2 : k = d
      · rw [n127 e q1] at h5 h6
        rw [q2, zst_w] at h6
        rw [q2, zst_f, n128 e q1]
        rcases hp with ⟨p1, -⟩ | ⟨p1, p2, p3, p4, p5⟩
        · omega
        · have := (hfz.mp p5) e h3
          by_cases y : f < z (128 + 6 * e) + z (125 + 6 * e) ∧ z (128 + 6 * e) < f + z (125 + 6 * d)
          · exact absurd ⟨q1, q1, h6, y.1, y.2⟩ this
          · omega
      · rw [n127 e q1] at h5 h6
        rw [n127 k q2] at h6
        rw [n128 e q1, n128 k q2]
        exact g8 e k he hk hek h3 h4 h5 h6
section STAND
variable {h : HP} {a b p : Nat} {z : Nat → Int}
theorem st_fr (d : Nat) (w f : Int) : ∀ i, i ≠ a → (hset (hset h a (127 + 6 * d) (iI w)) a (128 + 6 * d) (iI f)) i = h i := fun i hi => by rw [hset_n _ _ _ hi, hset_n _ _ _ hi]
abbrev fitP (z : Nat → Int) (x y : Nat) : Prop := z (128 + 6 * y) + z (125 + 6 * x) ≤ z (31 * (z (127 + 6 * y)).toNat) ∧ frZ z (z (127 + 6 * y)) (z (128 + 6 * y)) (z (125 + 6 * x)) x y = true
abbrev ovP (z : Nat → Int) (x y : Nat) : Prop := z (127 + 6 * x) = z (127 + 6 * y) ∧ z (128 + 6 * y) < z (128 + 6 * x) + z (125 + 6 * y) ∧ z (128 + 6 * x) < z (128 + 6 * y) + z (125 + 6 * x)
def rsnS (z : Nat → Int) (x y : Nat) : Int := if z (127 + 6 * x) = -1 then 1 else if z (127 + 6 * y) = -1 then 1 else if z 187 < z 195 then (if fitP z x y then (if fitP z y x ∧ ¬ ovP z x y then 0 else 4) else 3) else 2
theorem a_both (S : FS a b p) (R : RepS h b z) (F : WF z) {x y : Nat} (hx : x < 10) (h2 : (x : Int) < z 185) (hy : y < 10) (h3 : (y : Int) < z 185) (hst : z (127 + 6 * y) ≠ -1) : f_A_fitsBothAway h a (iI x) (iI y) = some (if fitP z x y then 1 else 0) := by
  obtain ⟨⟨w1, w2⟩, ⟨n1, n2⟩, -⟩ := id F
  have hW := F.wall hy h3
  have hD := F.2.2.2.2.2.1 x hx
  have hS := F.2.2.2.2.2.2.1 y hy h3
  have hL := F.2.2.2.1 (z (127 + 6 * y)).toNat (by omega)
  unfold f_A_fitsBothAway
  rw [e2_ hx, e2_ hy, if_pos rfl, if_pos rfl, if_pos rfl, S.f0, e1_ hx, e1_ hy, R.q5 S.bs hy h3, R.q6 S.bs hy h3, R.q3 S.bs hx h2, st_len R S.bs F ⟨by omega, by omega⟩, Option.bind_some, if_pos rfl, a_isFree S R F ⟨by omega, by omega⟩ ⟨by omega, by omega⟩ hD.2.2.1 hx hy, Option.bind_some, iI_add, tLt (by omega) (by omega) (by omega) (by omega)]
  by_cases c : z (31 * (z (127 + 6 * y)).toNat) < z (128 + 6 * y) + z (125 + 6 * x)
  · have n5 : ¬ fitP z x y := fun q => by have := q.1; omega
    rw [if_pos c, if_neg n5]
  · rw [if_neg c]
    by_cases c2 : frZ z (z (127 + 6 * y)) (z (128 + 6 * y)) (z (125 + 6 * x)) x y = true
    · have n5 : fitP z x y := ⟨by omega, c2⟩
      rw [if_pos c2, if_neg (by decide), if_pos n5]
    · have n5 : ¬ fitP z x y := fun q => c2 q.2
      rw [if_neg c2, if_pos rfl, if_neg n5]
theorem RepS.sw (R : RepS h b z) : h b 12 = iI (z 187) := R.1.2.2.2
theorem a_swapR (S : FS a b p) (R : RepS h b z) (F : WF z) {x y : Nat} (hx : x < 10) (h2 : (x : Int) < z 185) (hy : y < 10) (h3 : (y : Int) < z 185) (hxy : x ≠ y) : f_A_swapReason h a (iI x) (iI y) = some (iI (rsnS z x y)) := by
  obtain ⟨⟨w1, w2⟩, ⟨n1, n2⟩, sw, -⟩ := id F
  obtain ⟨s0, s1, s2, s3, s4, s5⟩ := set_b F
  have hWx := F.wall hx h2
  have hWy := F.wall hy h3
  have hDx := F.2.2.2.2.2.1 x hx
  have hDy := F.2.2.2.2.2.1 y hy
  have cx : 0 ≤ (x : Int) ∧ (x : Int) < z 185 := ⟨by omega, h2⟩
  have cy : 0 ≤ (y : Int) ∧ (y : Int) < z 185 := ⟨by omega, h3⟩
  have nxy : ¬ iI (x : Int) = iI (y : Int) := by
    rw [iI_eq (by omega) (by omega) (by omega) (by omega)]
    omega
  unfold f_A_swapReason rsnS
  rw [S.f0, s_hasDealer R F ⟨by omega, by omega⟩, Option.bind_some, if_pos cx, if_neg (by decide), s_hasDealer R F ⟨by omega, by omega⟩, Option.bind_some, if_pos cy, if_neg (by decide), if_neg nxy, st_stands R S.bs F hx h2, Option.bind_some]
  by_cases c1 : z (127 + 6 * x) = -1
  · rw [if_pos c1, if_pos c1, if_pos rfl, lI1]
  · rw [if_neg c1, if_neg c1, if_neg (by decide), st_stands R S.bs F hy h3, Option.bind_some]
    by_cases c2 : z (127 + 6 * y) = -1
    · rw [if_pos c2, if_pos c2, if_pos rfl, lI1]
    · rw [if_neg c2, if_neg c2, if_neg (by decide), ibs5, if_pos rfl, R.sw, R.s5 S.bs, tLt (by omega) (by omega) (by omega) (by omega)]
      by_cases c3 : z 187 < z 195
      · rw [if_pos c3, if_pos c3, a_both S R F hx h2 hy h3 c2, Option.bind_some]
        by_cases c4 : fitP z x y
        · have t153 : ∀ s : Int32, f_A_swapReason_153 h a (iI x) (iI y) s = some (if fitP z y x then (if s = 0 then 0 else 4) else 4) := by
            intro s
            unfold f_A_swapReason_153
            rw [a_both S R F hy h3 hx h2 c1, Option.bind_some]
            by_cases c5 : fitP z y x
            · rw [if_pos c5, if_pos c5, if_neg (by decide)]
              by_cases q : s = 0
              · rw [if_pos q, if_pos q]
              · rw [if_neg q, if_neg q]
            · rw [if_neg c5, if_neg c5, if_pos rfl]
          rw [if_pos c4, if_pos c4, if_neg (by decide), e2_ hx, e2_ hy, if_pos rfl, if_pos rfl, if_pos rfl, if_pos rfl, if_pos rfl, if_pos rfl, e1_ hx, e1_ hy, R.q5 S.bs hx h2, R.q5 S.bs hy h3, R.q6 S.bs hx h2, R.q6 S.bs hy h3, R.q3 S.bs hx h2, R.q3 S.bs hy h3, a_overlap ⟨by omega, by omega⟩ ⟨by omega, by omega⟩ ⟨by omega, by omega⟩ ⟨by omega, by omega⟩, Option.bind_some, tEq (by omega) (by omega) (by omega) (by omega)]
          unfold f_A_swapReason_152
          rw [t153, t153, if_pos rfl, if_neg (by decide : ¬ (1 : Int32) = 0)]
          by_cases c5 : fitP z y x
          · rw [if_pos c5]
            by_cases c6 : z (127 + 6 * x) = z (127 + 6 * y)
            · rw [if_pos c6]
              by_cases c7 : z (128 + 6 * y) < z (128 + 6 * x) + z (125 + 6 * y) ∧ z (128 + 6 * x) < z (128 + 6 * y) + z (125 + 6 * x)
              · have n5 : ¬ (fitP z y x ∧ ¬ ovP z x y) := fun q => q.2 ⟨c6, c7.1, c7.2⟩
                rw [if_pos c7, if_neg (by decide), if_neg n5, if_pos c5, lI4]
              · have n5 : fitP z y x ∧ ¬ ovP z x y := ⟨c5, fun q => c7 q.2⟩
                rw [if_neg c7, if_pos rfl, if_pos n5, lI0]
            · have n5 : fitP z y x ∧ ¬ ovP z x y := ⟨c5, fun q => c6 q.1⟩
              rw [if_neg c6, if_pos n5, lI0]
          · have n5 : ¬ (fitP z y x ∧ ¬ ovP z x y) := fun q => c5 q.1
            rw [if_neg c5, if_neg n5]
            by_cases c6 : z (127 + 6 * x) = z (127 + 6 * y)
            · rw [if_pos c6, if_neg c5]
              by_cases c7 : z (128 + 6 * y) < z (128 + 6 * x) + z (125 + 6 * y) ∧ z (128 + 6 * x) < z (128 + 6 * y) + z (125 + 6 * x)
              · rw [if_pos c7, if_neg (by decide), lI4]
              · rw [if_neg c7, if_pos rfl, lI4]
            · rw [if_neg c6, lI4]
        · rw [if_neg c4, if_neg c4, if_pos rfl, lI3]
      · rw [if_neg c3, if_neg c3, lI2]
end STAND
