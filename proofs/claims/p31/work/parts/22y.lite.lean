/-! days: rows of which only what is owed and the counters change -/
section LITE
variable {h : HP} {a b p : Nat} {z z' : Nat → Int}
def Lite (z z' : Nat → Int) : Prop := ∀ k : Nat, k < 196 → (k < 186 ∨ 190 ≤ k) → (k < 124 ∨ 184 ≤ k ∨ k % 6 ≠ 3) → z' k = z k
theorem sm_congr {G G' : Nat → Int} : ∀ n i : Nat, (∀ k, i ≤ k → k < i + n → G k = G' k) → sm G n i = sm G' n i := by
  intro n
  induction n with
  | zero => intro i _; rfl
  | succ n ih =>
    intro i hi
    show G i + sm G n (i + 1) = G' i + sm G' n (i + 1)
    rw [hi i (by omega) (by omega), ih (i + 1) (fun k h1 h2 => hi k (by omega) (by omega))]
theorem Lite.wf (L : Lite z z') (F : WF z) (h : 0 ≤ z' 187 ∧ z' 187 ≤ 9) : WF z' := by
  obtain ⟨⟨w1, w2⟩, ⟨n1, n2⟩, g3, g4, g5, g6, g7, g8, g9, g10⟩ := id F
  have e184 := L 184 (by omega) (by omega) (by omega)
  have e185 := L 185 (by omega) (by omega) (by omega)
  have q : ∀ d : Nat, d < 10 → z' (124 + 6 * d) = z (124 + 6 * d) ∧ z' (125 + 6 * d) = z (125 + 6 * d) ∧ z' (126 + 6 * d) = z (126 + 6 * d) ∧ z' (127 + 6 * d) = z (127 + 6 * d) ∧ z' (128 + 6 * d) = z (128 + 6 * d) := fun d hd => ⟨L _ (by omega) (by omega) (by omega), L _ (by omega) (by omega) (by omega), L _ (by omega) (by omega) (by omega), L _ (by omega) (by omega) (by omega), L _ (by omega) (by omega) (by omega)⟩
  refine ⟨by rw [e184]; exact ⟨w1, w2⟩, by rw [e185]; exact ⟨n1, n2⟩, h, fun w hw => ?_, fun w m hw hm => ?_, fun d hd => ?_, fun d hd h2 => ?_, fun d e hd he hde h2 h3 h4 h5 => ?_, fun j hj => ?_, ?_⟩
  · rw [L _ (by omega) (by omega) (by omega)]; exact g4 w hw
  · rw [L _ (by omega) (by omega) (by omega)]; exact g5 w m hw hm
  · obtain ⟨q1, q2, q3, q4, q5⟩ := q d hd
    rw [q1, q2, q3, e185]; exact g6 d hd
  · obtain ⟨q1, q2, q3, q4, q5⟩ := q d hd
    rw [e185] at h2
    rw [q2, q4, q5, e184]
    rcases g7 d hd h2 with r | ⟨r1, r2, r3, r4⟩
    · exact Or.inl r
    · exact Or.inr ⟨r1, r2, r3, by rw [L _ (by omega) (by omega) (by omega)]; exact r4⟩
  · obtain ⟨q1, q2, q3, q4, q5⟩ := q d hd
    obtain ⟨s1, s2, s3, s4, s5⟩ := q e he
    rw [e185] at h2 h3
    rw [q4] at h4 h5
    rw [s4] at h5
    rw [q2, q5, s2, s5]
    exact g8 d e hd he hde h2 h3 h4 h5
  · rw [L _ (by omega) (by omega) (by omega)]; exact g9 j hj
  · rw [L _ (by omega) (by omega) (by omega), L _ (by omega) (by omega) (by omega)]; exact g10
theorem Lite.share (L : Lite z z') (F : WF z) : shareZ z' = shareZ z := by
  obtain ⟨-, ⟨n1, n2⟩, -⟩ := id F
  have e185 := L 185 (by omega) (by omega) (by omega)
  have E : Same z z' (z 185).toNat 4 := by
    refine ⟨fun k h1 h2 => L k (by omega) (by omega) (by omega), L _ (by omega) (by omega) (by omega), fun d hd => ⟨L _ (by omega) (by omega) (by omega), L _ (by omega) (by omega) (by omega), L _ (by omega) (by omega) (by omega), L _ (by omega) (by omega) (by omega), ?_⟩⟩
    have := F.wall (d := d) (by omega) (by omega)
    omega
  unfold shareZ
  rw [e185]
  exact share_cong F E _ (Nat.le_refl _) (by omega)
theorem Lite.rent (L : Lite z z') (F : WF z) {d : Nat} (hd : d < 10) (h2 : (d : Int) < z 185) : rentZ z' d = rentZ z d := by
  obtain ⟨-, ⟨n1, n2⟩, -⟩ := id F
  have e185 := L 185 (by omega) (by omega) (by omega)
  have q : ∀ d : Nat, d < 10 → z' (124 + 6 * d) = z (124 + 6 * d) ∧ z' (125 + 6 * d) = z (125 + 6 * d) ∧ z' (126 + 6 * d) = z (126 + 6 * d) ∧ z' (127 + 6 * d) = z (127 + 6 * d) ∧ z' (128 + 6 * d) = z (128 + 6 * d) := fun d hd => ⟨L _ (by omega) (by omega) (by omega), L _ (by omega) (by omega) (by omega), L _ (by omega) (by omega) (by omega), L _ (by omega) (by omega) (by omega), L _ (by omega) (by omega) (by omega)⟩
  obtain ⟨q1, q2, q3, q4, q5⟩ := q d hd
  have hW := F.wall hd h2
  have eE : endZ z' d = endZ z d := by
    unfold endZ
    rw [q4, q5, q2, L (31 * (z (127 + 6 * d)).toNat) (by omega) (by omega) (by omega)]
  have eR : rivZ z' d = rivZ z d := by
    unfold rivZ
    rw [e185]
    refine sm_congr _ _ (fun e h3 h4 => ?_)
    obtain ⟨s1, s2, s3, s4, s5⟩ := q e (by omega)
    have c : (nbr z' d e ∧ z' (124 + 6 * d) = z' (124 + 6 * e)) = (nbr z d e ∧ z (124 + 6 * d) = z (124 + 6 * e)) := by
      unfold nbr
      rw [q1, q2, q4, q5, s1, s2, s4, s5]
    show (if nbr z' d e ∧ z' (124 + 6 * d) = z' (124 + 6 * e) then (1 : Int) else 0) = (if nbr z d e ∧ z (124 + 6 * d) = z (124 + 6 * e) then (1 : Int) else 0)
    by_cases c2 : nbr z d e ∧ z (124 + 6 * d) = z (124 + 6 * e)
    · rw [if_pos c2, if_pos (by rw [c]; exact c2)]
    · rw [if_neg c2, if_neg (by rw [c]; exact c2)]
  have eL : lackZ z' d = lackZ z d := by
    unfold lackZ
    rw [q4, q3, L.share F]
  have eB : baseZ z' d = baseZ z d := by
    unfold baseZ
    rw [L.share F, q2, eE, L 190 (by omega) (by omega) (by omega), L 192 (by omega) (by omega) (by omega), L 193 (by omega) (by omega) (by omega)]
  unfold rentZ
  rw [q4, eR, eB, eL, L 194 (by omega) (by omega) (by omega)]
theorem Lite.rents (L : Lite z z') (F : WF z) : sm (fun d => rentZ z' d) (z' 185).toNat 0 = sm (fun d => rentZ z d) (z 185).toNat 0 := by
  obtain ⟨-, ⟨n1, n2⟩, -⟩ := id F
  rw [L 185 (by omega) (by omega) (by omega)]
  exact sm_congr _ _ (fun k h1 h2 => L.rent F (by omega) (by omega))
/-- rows that differ in what the class's State does not hold -/
theorem RepS.l89 (R : RepS h b z) (e : ∀ k : Nat, k < 196 → k ≠ 188 → k ≠ 189 → z' k = z k) (n2 : z 185 ≤ 10) : RepS h b z' := by
  obtain ⟨⟨r1, r2, r3, r4⟩, r5, r6, r7, r8⟩ := R
  refine ⟨⟨by rw [e _ (by omega) (by omega) (by omega)]; exact r1, by rw [e _ (by omega) (by omega) (by omega)]; exact r2, by rw [e _ (by omega) (by omega) (by omega)]; exact r3, by rw [e _ (by omega) (by omega) (by omega)]; exact r4⟩, fun w hw => by rw [e _ (by omega) (by omega) (by omega)]; exact r5 w hw, fun w m hw hm => by rw [e _ (by omega) (by omega) (by omega)]; exact r6 w m hw hm, fun d k hd h2 hk => ?_, fun j hj => by rw [e _ (by omega) (by omega) (by omega)]; exact r8 j hj⟩
  rw [e 185 (by omega) (by omega) (by omega)] at h2
  rw [e _ (by omega) (by omega) (by omega)]
  exact r7 d k hd h2 hk
theorem RepA.l89 (RA : RepA h a b p z) (e : ∀ k : Nat, k < 196 → k ≠ 188 → k ≠ 189 → z' k = z k) : RepA h a b p z' := by
  obtain ⟨S, R, RP, F⟩ := RA
  have L : Lite z z' := fun k h1 h2 _ => e k h1 (by omega) (by omega)
  obtain ⟨-, ⟨n1, n2⟩, g3, -⟩ := id F
  refine ⟨S, R.l89 e n2, by rw [L.share F]; exact RP, L.wf F (by rw [e 187 (by omega) (by omega) (by omega)]; exact g3)⟩
end LITE
