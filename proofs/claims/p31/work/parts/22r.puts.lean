/-! what changes a row: the class's swap; plugs, settings -/
section PUTS
variable {h : HP} {a b p : Nat} {z : Nat → Int}
/-- behind any change of a Fair's State: the share anew -/
theorem a_anew {h1 : HP} {z1 : Nat → Int} (S : FS a b p) (R1 : RepS h1 b z1) (F1 : WF z1) : ∃ h' : HP, f_W_shareOut h1 p b = some h' ∧ RepA h' a b p z1 ∧ (∀ i, ¬ (p + 1 ≤ i ∧ i < p + 4) → h' i = h1 i) := by
  obtain ⟨h', g1, g2, g3⟩ := w_shareOut S.bs F1 S.ps _ R1
  have hp : p = 184 ∨ p = 188 := S.ps
  have hb := S.bs.1
  have hb2 := S.bs.2
  exact ⟨h', g1, ⟨S, R1.fr (fun i i1 i2 => g3 i (by omega) (by omega) (by omega)), g2, F1⟩, fun i hi => g3 i (by omega) (by omega) (by omega)⟩
theorem a_exchange (RA : RepA h a b p z) {x y : Nat} (hx : x < 10) (h2 : (x : Int) < z 185) (hy : y < 10) (h3 : (y : Int) < z 185) (hxy : x ≠ y) : ∃ h' : HP, f_A_exchange h a (iI x) (iI y) = some (iI (rsnS z x y), h') ∧ RepA h' a b p (if rsnS z x y = 0 then zsw z x y else z) ∧ (∀ i, ¬ own b p i → h' i = h i) ∧ h' b 13 = h b 13 := by
  obtain ⟨S, R, RP, F⟩ := id RA
  have hp : p = 184 ∨ p = 188 := S.ps
  have hb := S.bs.1
  have hb2 := S.bs.2
  have hr := rsnS_b z x y
  unfold f_A_exchange
  rw [a_swapR S R F hx h2 hy h3 hxy, Option.bind_some, lI0, tEq (by omega) (by omega) (by omega) (by omega)]
  by_cases c : rsnS z x y = 0
  · have F' := zsw_wf F hx h2 hy h3 hxy c
    have R1 : RepS (hset (hset (hset (hset (hset h (b + 6) x (iI (z (127 + 6 * y)))) (b + 7) x (iI (z (128 + 6 * y)))) (b + 6) y (iI (z (127 + 6 * x)))) (b + 7) y (iI (z (128 + 6 * x)))) b 12 (iI (z 187 + 1))) b (zsw z x y) :=
      ((((R.setD (k := 3) (i := 127 + 6 * x) hx (by decide) (by omega) _).setD (k := 4) (i := 128 + 6 * x) hx (by decide) (by omega) _).setD (k := 3) (i := 127 + 6 * y) hy (by decide) (by omega) _).setD (k := 4) (i := 128 + 6 * y) hy (by decide) (by omega) _).setB (s := 12) (i := 187) (Or.inr (Or.inr ⟨rfl, rfl⟩)) _
    obtain ⟨h', g1, g2, g3⟩ := a_anew S R1 F'
    have q5x : h (b + 6) x = iI (z (127 + 6 * x)) := by have := R.q5 S.bs hx h2; rw [S.bs.fld, show b + 1 + 5 = b + 6 by omega] at this; exact this
    have q5y : h (b + 6) y = iI (z (127 + 6 * y)) := by have := R.q5 S.bs hy h3; rw [S.bs.fld, show b + 1 + 5 = b + 6 by omega] at this; exact this
    have q6x : h (b + 7) x = iI (z (128 + 6 * x)) := by have := R.q6 S.bs hx h2; rw [S.bs.fld, show b + 1 + 6 = b + 7 by omega] at this; exact this
    have q6y : h (b + 7) y = iI (z (128 + 6 * y)) := by have := R.q6 S.bs hy h3; rw [S.bs.fld, show b + 1 + 6 = b + 7 by omega] at this; exact this
    have q6y' : hset h (b + 6) x (iI (z (127 + 6 * y))) (b + 7) y = iI (z (128 + 6 * y)) := by rw [hset_n _ _ _ (by omega)]; exact q6y
    have q12 : hset (hset (hset (hset h (b + 6) x (iI (z (127 + 6 * y)))) (b + 7) x (iI (z (128 + 6 * y)))) (b + 6) y (iI (z (127 + 6 * x)))) (b + 7) y (iI (z (128 + 6 * x))) b 12 = iI (z 187) := by
      rw [hset_n _ _ _ (by omega), hset_n _ _ _ (by omega), hset_n _ _ _ (by omega), hset_n _ _ _ (by omega)]
      exact R.sw
    rw [if_pos c, if_pos c, e2_ hx, e2_ hy, if_pos rfl, if_pos rfl, if_pos rfl, if_pos rfl, S.f0, S.f1, e1_ hx, e1_ hy, S.bs.fld, S.bs.fld, show b + 1 + 5 = b + 6 by omega, show b + 1 + 6 = b + 7 by omega, q5x, q5y, q6x, Option.bind_some, if_pos rfl, if_pos rfl, q6y', Option.bind_some, if_pos rfl, Option.bind_some, if_pos rfl, Option.bind_some, q12, lI1, iI_add, Option.bind_some, g1, Option.bind_some]
    refine ⟨h', rfl, g2, fun i hi => ?_, ?_⟩
    · have n0 : i ≠ b := fun q => hi (Or.inl (by omega))
      have n1 : i ≠ b + 6 := fun q => hi (Or.inl (by omega))
      have n2 : i ≠ b + 7 := fun q => hi (Or.inl (by omega))
      rw [g3 i (fun q => hi (Or.inr q)), hset_n _ _ _ n0, hset_n _ _ _ n2, hset_n _ _ _ n1, hset_n _ _ _ n2, hset_n _ _ _ n1]
    · rw [g3 b (by omega), hset_s, upd_n _ _ (by decide), hset_n _ _ _ (by omega), hset_n _ _ _ (by omega), hset_n _ _ _ (by omega), hset_n _ _ _ (by omega)]
  · rw [if_neg c, if_neg c]
    exact ⟨h, rfl, RA, fun _ _ => rfl, rfl⟩
theorem wf_plug (F : WF z) {w m : Nat} (hw : w < 4) (hm : m < 30) {v : Int} (hv : 0 ≤ v ∧ v ≤ 4) : WF (uI z (31 * w + 1 + m) v) := by
  obtain ⟨g1, g2, g3, g4, g5, g6, g7, g8, g9, g10⟩ := F
  have n : ∀ k : Nat, (124 ≤ k ∨ k % 31 = 0) → uI z (31 * w + 1 + m) v k = z k := fun k hk => uI_n _ _ (by omega)
  refine ⟨by rw [n _ (by omega)]; exact g1, by rw [n _ (by omega)]; exact g2, by rw [n _ (by omega)]; exact g3, fun e he => by rw [n _ (by omega)]; exact g4 e he, fun e j he hj => ?_, fun d hd => ?_, fun d hd h2 => ?_, fun d e hd he hde h2 h3 h4 h5 => ?_, fun j hj => by rw [n _ (by omega)]; exact g9 j hj, by rw [n _ (by omega), n _ (by omega)]; exact g10⟩
  · by_cases q : 31 * e + 1 + j = 31 * w + 1 + m
    · rw [q, uI_s]; exact hv
    · rw [uI_n _ _ q]; exact g5 e j he hj
  · rw [n (124 + 6 * d) (by omega), n 185 (by omega), n (125 + 6 * d) (by omega), n (126 + 6 * d) (by omega)]
    exact g6 d hd
  · rw [n 185 (by omega)] at h2
    rw [n (127 + 6 * d) (by omega), n (128 + 6 * d) (by omega), n 184 (by omega), n (125 + 6 * d) (by omega), n _ (by omega)]
    exact g7 d hd h2
  · rw [n 185 (by omega)] at h2 h3
    rw [n (127 + 6 * d) (by omega)] at h4 h5
    rw [n (127 + 6 * e) (by omega)] at h5
    rw [n (128 + 6 * d) (by omega), n (125 + 6 * d) (by omega), n (128 + 6 * e) (by omega), n (125 + 6 * e) (by omega)]
    exact g8 d e hd he hde h2 h3 h4 h5
theorem wf_set (F : WF z) {j : Nat} (hj : j < 6) {v : Int} (hv : 0 ≤ v ∧ v ≤ 50) (h15 : j = 1 ∨ j = 5 → v ≤ 9) : WF (uI z (190 + j) v) := by
  obtain ⟨g1, g2, g3, g4, g5, g6, g7, g8, g9, g10⟩ := F
  have n : ∀ k : Nat, k < 190 → uI z (190 + j) v k = z k := fun k hk => uI_n _ _ (by omega)
  refine ⟨by rw [n _ (by omega)]; exact g1, by rw [n _ (by omega)]; exact g2, by rw [n _ (by omega)]; exact g3, fun e he => by rw [n _ (by omega)]; exact g4 e he, fun e k he hk => by rw [n _ (by omega)]; exact g5 e k he hk, fun d hd => ?_, fun d hd h2 => ?_, fun d e hd he hde h2 h3 h4 h5 => ?_, fun k hk => ?_, ?_⟩
  · rw [n (124 + 6 * d) (by omega), n 185 (by omega), n (125 + 6 * d) (by omega), n (126 + 6 * d) (by omega)]
    exact g6 d hd
  · rw [n 185 (by omega)] at h2
    rw [n (127 + 6 * d) (by omega), n (128 + 6 * d) (by omega), n 184 (by omega), n (125 + 6 * d) (by omega)]
    have h := g7 d hd h2
    rcases h with h | ⟨p1, p2, p3, p4⟩
    · exact Or.inl h
    · exact Or.inr ⟨p1, p2, p3, by rw [n _ (by omega)]; exact p4⟩
  · rw [n 185 (by omega)] at h2 h3
    rw [n (127 + 6 * d) (by omega)] at h4 h5
    rw [n (127 + 6 * e) (by omega)] at h5
    rw [n (128 + 6 * d) (by omega), n (125 + 6 * d) (by omega), n (128 + 6 * e) (by omega), n (125 + 6 * e) (by omega)]
    exact g8 d e hd he hde h2 h3 h4 h5
  · by_cases q : k = j
    · rw [q, uI_s]; exact hv
    · rw [uI_n _ _ (by omega)]; exact g9 k hk
  · constructor
    · by_cases q : j = 1
      · rw [q, uI_s]; exact h15 (Or.inl q)
      · rw [uI_n _ _ (by omega)]; exact g10.1
    · by_cases q : j = 5
      · rw [q, uI_s]; exact h15 (Or.inr q)
      · rw [uI_n _ _ (by omega)]; exact g10.2
end PUTS
