/-! what changes a row: a dealer's place -/
section SETS
variable {h : HP} {a b p : Nat} {z : Nat → Int}
theorem RepS.setD (R : RepS h b z) {d k i : Nat} (hd : d < 10) (hk : k < 6) (hi : i = 124 + 6 * d + k) (v : Int) : RepS (hset h (b + 3 + k) d (iI v)) b (uI z i v) := by
  obtain ⟨⟨r1, r2, r3, r4⟩, r5, r6, r7, r8⟩ := R
  refine ⟨⟨?_, ?_, ?_, ?_⟩, fun w hw => ?_, fun w m hw hm => ?_, fun e j he h2 hj => ?_, fun j hj => ?_⟩
  · rw [hset_n _ _ _ (by omega), uI_n _ _ (by omega)]; exact r1
  · rw [hset_n _ _ _ (by omega), uI_n _ _ (by omega)]; exact r2
  · rw [hset_n _ _ _ (by omega), uI_n _ _ (by omega)]; exact r3
  · rw [hset_n _ _ _ (by omega), uI_n _ _ (by omega)]; exact r4
  · rw [hset_n _ _ _ (by omega), uI_n _ _ (by omega)]; exact r5 w hw
  · rw [hset_n _ _ _ (by omega), uI_n _ _ (by omega)]; exact r6 w m hw hm
  · rw [uI_n _ _ (by omega)] at h2
    by_cases q : j = k
    · rw [q, hset_s]
      by_cases q2 : e = d
      · rw [q2, upd_s, hi, uI_s]
      · rw [upd_n _ _ q2, uI_n _ _ (by omega)]
        exact r7 e k he h2 hk
    · rw [hset_n _ _ _ (by omega), uI_n _ _ (by omega)]
      exact r7 e j he h2 hj
  · rw [hset_n _ _ _ (by omega), uI_n _ _ (by omega)]; exact r8 j hj
theorem RepS.setP (R : RepS h b z) {w m : Nat} (hw : w < 4) (hm : m < 30) (v : Int) : RepS (hset h (b + 2) (30 * w + m) (iI v)) b (uI z (31 * w + 1 + m) v) := by
  obtain ⟨⟨r1, r2, r3, r4⟩, r5, r6, r7, r8⟩ := R
  refine ⟨⟨?_, ?_, ?_, ?_⟩, fun e he => ?_, fun e j he hj => ?_, fun e j he h2 hj => ?_, fun j hj => ?_⟩
  · rw [hset_n _ _ _ (by omega), uI_n _ _ (by omega)]; exact r1
  · rw [hset_n _ _ _ (by omega), uI_n _ _ (by omega)]; exact r2
  · rw [hset_n _ _ _ (by omega), uI_n _ _ (by omega)]; exact r3
  · rw [hset_n _ _ _ (by omega), uI_n _ _ (by omega)]; exact r4
  · rw [hset_n _ _ _ (by omega), uI_n _ _ (by omega)]; exact r5 e he
  · rw [hset_s]
    by_cases q : 30 * e + j = 30 * w + m
    · have e1 : e = w := by omega
      have e2 : j = m := by omega
      rw [e1, e2, upd_s, uI_s]
    · rw [upd_n _ _ q, uI_n _ _ (by omega)]
      exact r6 e j he hj
  · rw [uI_n _ _ (by omega)] at h2
    rw [hset_n _ _ _ (by omega), uI_n _ _ (by omega)]
    exact r7 e j he h2 hj
  · rw [hset_n _ _ _ (by omega), uI_n _ _ (by omega)]; exact r8 j hj
theorem RepS.setS (R : RepS h b z) {j : Nat} (hj : j < 6) (v : Int) : RepS (hset h (b + 9) j (iI v)) b (uI z (190 + j) v) := by
  obtain ⟨⟨r1, r2, r3, r4⟩, r5, r6, r7, r8⟩ := R
  refine ⟨⟨?_, ?_, ?_, ?_⟩, fun e he => ?_, fun e m he hm => ?_, fun e k he h2 hk => ?_, fun k hk => ?_⟩
  · rw [hset_n _ _ _ (by omega), uI_n _ _ (by omega)]; exact r1
  · rw [hset_n _ _ _ (by omega), uI_n _ _ (by omega)]; exact r2
  · rw [hset_n _ _ _ (by omega), uI_n _ _ (by omega)]; exact r3
  · rw [hset_n _ _ _ (by omega), uI_n _ _ (by omega)]; exact r4
  · rw [hset_n _ _ _ (by omega), uI_n _ _ (by omega)]; exact r5 e he
  · rw [hset_n _ _ _ (by omega), uI_n _ _ (by omega)]; exact r6 e m he hm
  · rw [uI_n _ _ (by omega)] at h2
    rw [hset_n _ _ _ (by omega), uI_n _ _ (by omega)]
    exact r7 e k he h2 hk
  · rw [hset_s]
    by_cases q : k = j
    · rw [q, upd_s, uI_s]
    · rw [upd_n _ _ q, uI_n _ _ (by omega)]
      exact r8 k hk
theorem RepS.setB (R : RepS h b z) {s i : Nat} (hs : (s = 9 ∧ i = 184) ∨ (s = 11 ∧ i = 186) ∨ (s = 12 ∧ i = 187)) (v : Int) : RepS (hset h b s (iI v)) b (uI z i v) := by
  obtain ⟨⟨r1, r2, r3, r4⟩, r5, r6, r7, r8⟩ := R
  have keep : ∀ (j k : Nat), j ≠ s → k ≠ i → h b j = iI (z k) → hset h b s (iI v) b j = iI (uI z i v k) := fun j k q1 q2 q3 => by
    rw [hset_s, upd_n _ _ q1, uI_n _ _ q2]; exact q3
  have new : hset h b s (iI v) b s = iI (uI z i v i) := by rw [hset_s, upd_s, uI_s]
  refine ⟨⟨?_, ?_, ?_, ?_⟩, fun e he => ?_, fun e m he hm => ?_, fun e k he h2 hk => ?_, fun k hk => ?_⟩
  · rcases hs with ⟨rfl, rfl⟩ | ⟨rfl, rfl⟩ | ⟨rfl, rfl⟩
    · exact new
    · exact keep _ _ (by decide) (by decide) r1
    · exact keep _ _ (by decide) (by decide) r1
  · rcases hs with ⟨rfl, rfl⟩ | ⟨rfl, rfl⟩ | ⟨rfl, rfl⟩ <;> exact keep _ _ (by decide) (by decide) r2
  · rcases hs with ⟨rfl, rfl⟩ | ⟨rfl, rfl⟩ | ⟨rfl, rfl⟩
    · exact keep _ _ (by decide) (by decide) r3
    · exact new
    · exact keep _ _ (by decide) (by decide) r3
  · rcases hs with ⟨rfl, rfl⟩ | ⟨rfl, rfl⟩ | ⟨rfl, rfl⟩
    · exact keep _ _ (by decide) (by decide) r4
    · exact keep _ _ (by decide) (by decide) r4
    · exact new
  · rw [hset_n _ _ _ (by omega), uI_n _ _ (by omega)]; exact r5 e he
  · rw [hset_n _ _ _ (by omega), uI_n _ _ (by omega)]; exact r6 e m he hm
  · rw [uI_n _ _ (by omega)] at h2
    rw [hset_n _ _ _ (by omega), uI_n _ _ (by omega)]
    exact r7 e k he h2 hk
  · rw [hset_n _ _ _ (by omega), uI_n _ _ (by omega)]; exact r8 k hk
theorem RepS.setW (R : RepS h b z) {w : Nat} (hw : w < 4) (v : Int) : RepS (hset h (b + 1) w (iI v)) b (uI z (31 * w) v) := by
  obtain ⟨⟨r1, r2, r3, r4⟩, r5, r6, r7, r8⟩ := R
  refine ⟨⟨?_, ?_, ?_, ?_⟩, fun e he => ?_, fun e m he hm => ?_, fun e k he h2 hk => ?_, fun k hk => ?_⟩
  · rw [hset_n _ _ _ (by omega), uI_n _ _ (by omega)]; exact r1
  · rw [hset_n _ _ _ (by omega), uI_n _ _ (by omega)]; exact r2
  · rw [hset_n _ _ _ (by omega), uI_n _ _ (by omega)]; exact r3
  · rw [hset_n _ _ _ (by omega), uI_n _ _ (by omega)]; exact r4
  · rw [hset_s]
    by_cases q : e = w
    · rw [q, upd_s, uI_s]
    · rw [upd_n _ _ q, uI_n _ _ (by omega)]
      exact r5 e he
  · rw [hset_n _ _ _ (by omega), uI_n _ _ (by omega)]; exact r6 e m he hm
  · rw [uI_n _ _ (by omega)] at h2
    rw [hset_n _ _ _ (by omega), uI_n _ _ (by omega)]
    exact r7 e k he h2 hk
  · rw [hset_n _ _ _ (by omega), uI_n _ _ (by omega)]; exact r8 k hk
/-- a Fair of the class holds a row, its share with it -/
def RepA (h : HP) (a b p : Nat) (z : Nat → Int) : Prop := FS a b p ∧ RepS h b z ∧ RepPw h p (shareZ z) ∧ WF z
/-- the cells of a Fair -/
def own (b p i : Nat) : Prop := (b ≤ i ∧ i < b + 10) ∨ (p + 1 ≤ i ∧ i < p + 4)
theorem a_place (S : FS a b p) (R : RepS h b z) (F : WF z) {d : Nat} (hd : d < 10) (h2 : (d : Int) < z 185) (w f : Int) (F' : WF (zst z d w f)) : ∃ h' : HP, f_W_shareOut (hset (hset h (b + 6) d (iI w)) (b + 7) d (iI f)) p b = some h' ∧ RepA h' a b p (zst z d w f) ∧ (∀ i, ¬ own b p i → h' i = h i) ∧ h' b = h b ∧ h' (b + 8) = h (b + 8) := by
  have R1 : RepS (hset (hset h (b + 6) d (iI w)) (b + 7) d (iI f)) b (zst z d w f) := (R.setD (k := 3) (i := 127 + 6 * d) hd (by decide) (by omega) w).setD (k := 4) (i := 128 + 6 * d) hd (by decide) (by omega) f
  obtain ⟨h', g1, g2, g3⟩ := w_shareOut S.bs F' S.ps _ R1
  have hp : p = 184 ∨ p = 188 := S.ps
  have hb := S.bs.1
  have hb2 := S.bs.2
  refine ⟨h', g1, ⟨S, R1.fr (fun i i1 i2 => g3 i (by omega) (by omega) (by omega)), g2, F'⟩, fun i hi => ?_, ?_, ?_⟩
  · have n1 : i ≠ b + 6 := fun q => hi (Or.inl (by omega))
    have n2 : i ≠ b + 7 := fun q => hi (Or.inl (by omega))
    rw [g3 i (fun q => hi (Or.inr (by omega))) (fun q => hi (Or.inr (by omega))) (fun q => hi (Or.inr (by omega))), hset_n _ _ _ n2, hset_n _ _ _ n1]
  · rw [g3 b (by omega) (by omega) (by omega), hset_n _ _ _ (by omega), hset_n _ _ _ (by omega)]
  · rw [g3 (b + 8) (by omega) (by omega) (by omega), hset_n _ _ _ (by omega), hset_n _ _ _ (by omega)]
theorem a_letStand (RA : RepA h a b p z) {d : Nat} (hd : d < 10) (h2 : (d : Int) < z 185) {w f : Int} (hw : 0 ≤ w ∧ w < z 184) (hf : 0 ≤ f ∧ f < z (31 * w.toNat)) : ∃ h' : HP, f_A_letStand h a (iI d) (iI w) (iI f) = some (iI (rsnP z d w f), h') ∧ RepA h' a b p (if rsnP z d w f = 0 then zst z d w f else z) ∧ (∀ i, ¬ own b p i → h' i = h i) ∧ h' b = h b ∧ h' (b + 8) = h (b + 8) := by
  obtain ⟨S, R, RP, F⟩ := id RA
  unfold f_A_letStand
  rw [a_why S R F hd h2 hw hf, Option.bind_some]
  have hr : 0 ≤ rsnP z d w f ∧ rsnP z d w f ≤ 3 := by
    unfold rsnP
    split
    · split
      · split <;> omega
      · omega
    · omega
  rw [lI0, tEq (by omega) (by omega) (by omega) (by omega)]
  by_cases c : rsnP z d w f = 0
  · have F' : WF (zst z d w f) := by
      refine wf_zst F hd h2 (Or.inr ⟨hw.1, hw.2, hf.1, ?_⟩)
      unfold rsnP at c
      by_cases c1 : z (127 + 6 * d) = -1
      · rw [if_pos c1] at c
        by_cases c2 : f + z (125 + 6 * d) ≤ z (31 * w.toNat)
        · rw [if_pos c2] at c
          by_cases c3 : frZ z w f (z (125 + 6 * d)) d d = true
          · exact ⟨c2, c3⟩
          · rw [if_neg c3] at c; omega
        · rw [if_neg c2] at c; omega
      · rw [if_neg c1] at c; omega
    obtain ⟨h', g1, g2, g3⟩ := a_place S R F hd h2 w f F'
    rw [if_pos c, if_pos c, e2_ hd, if_pos rfl, Option.bind_some, if_pos rfl, Option.bind_some, S.f0, S.f1, e1_ hd, S.bs.fld, S.bs.fld, show b + 1 + 5 = b + 6 by omega, show b + 1 + 6 = b + 7 by omega, g1, Option.bind_some]
    exact ⟨h', rfl, g2, g3⟩
  · rw [if_neg c, if_neg c]
    exact ⟨h, rfl, RA, fun _ _ => rfl, rfl, rfl⟩
theorem a_sendAway (RA : RepA h a b p z) {d : Nat} (hd : d < 10) (h2 : (d : Int) < z 185) : ∃ h' : HP, f_A_sendAway h a (iI d) = some (if z (127 + 6 * d) = -1 then iI (-1) else iI (z (129 + 6 * d)), h') ∧ RepA h' a b p (zst z d (-1) (-1)) ∧ (∀ i, ¬ own b p i → h' i = h i) ∧ h' b = h b ∧ h' (b + 8) = h (b + 8) := by
  obtain ⟨S, R, RP, F⟩ := id RA
  have hS := F.2.2.2.2.2.2.1 d hd h2
  unfold f_A_sendAway
  rw [S.f0, S.f1, st_stands R S.bs F hd h2, Option.bind_some]
  by_cases c : z (127 + 6 * d) = -1
  · have ez : zst z d (-1) (-1) = z := by
      funext k
      unfold zst uI
      by_cases k1 : k = 128 + 6 * d
      · rw [if_pos k1, k1]; omega
      · rw [if_neg k1]
        by_cases k2 : k = 127 + 6 * d
        · rw [if_pos k2, k2, c]
        · rw [if_neg k2]
    rw [if_pos c, if_pos c, if_pos rfl, ez, lI1, iI_neg]
    exact ⟨h, rfl, RA, fun _ _ => rfl, rfl, rfl⟩
  · obtain ⟨h', g1, g2, g3, g4, g5⟩ := a_place S R F hd h2 (-1) (-1) (wf_zst F hd h2 (Or.inl ⟨rfl, rfl⟩))
    rw [if_neg c, if_neg c, if_neg (by decide), e2_ hd, if_pos rfl, Option.bind_some, if_pos rfl, Option.bind_some, lI1, iI_neg, e1_ hd, S.bs.fld, S.bs.fld, S.bs.fld, show b + 1 + 5 = b + 6 by omega, show b + 1 + 6 = b + 7 by omega, g1, Option.bind_some, if_pos rfl]
    refine ⟨h', ?_, g2, g3, g4, g5⟩
    have e8 : h' (b + 1 + 7) d = iI (z (129 + 6 * d)) := by
      rw [show b + 1 + 7 = b + 8 by omega, g5, show b + 8 = b + 3 + 5 by omega, R.dl 5 hd h2 (by decide)]
      congr 2; omega
    rw [e8]
end SETS
