/-! the law's calls: actions -/
section CALLA
variable {h g : HP} {a b p : Nat} {z : Nat → Int} {B : Int}
theorem f02 : fld 180 2 = 192 := rfl
theorem RepA.s13 (RA : RepA h 182 0 184 z) (v : Int32) : RepA (hset h 0 13 v) 182 0 184 z := by
  obtain ⟨S, ⟨⟨r1, r2, r3, r4⟩, r5, r6, r7, r8⟩, RP, F⟩ := RA
  refine ⟨S, ⟨⟨?_, ?_, ?_, ?_⟩, fun w hw => ?_, fun w m hw hm => ?_, fun d k hd h2 hk => ?_, fun j hj => ?_⟩, RP.fr (hset_n _ _ _ (by decide)) (hset_n _ _ _ (by decide)) (hset_n _ _ _ (by decide)), F⟩
  · rw [hset_s, upd_n _ _ (by decide)]; exact r1
  · rw [hset_s, upd_n _ _ (by decide)]; exact r2
  · rw [hset_s, upd_n _ _ (by decide)]; exact r3
  · rw [hset_s, upd_n _ _ (by decide)]; exact r4
  · rw [hset_n _ _ _ (by omega)]; exact r5 w hw
  · rw [hset_n _ _ _ (by omega)]; exact r6 w m hw hm
  · rw [hset_n _ _ _ (by omega)]; exact r7 d k hd h2 hk
  · rw [hset_n _ _ _ (by omega)]; exact r8 j hj
theorem a_count0 : f_A_countRefusal h 182 (iI 0) = some (iI 0, h) := by
  unfold f_A_countRefusal
  rw [if_pos lI0.symm]
theorem a_count1 (RA : RepA h 182 0 184 z) (h13 : h 0 13 = iI (z 188)) {r : Int} (hr : 0 ≤ r ∧ r ≤ 4) (h0 : r ≠ 0) : ∃ h', f_A_countRefusal h 182 (iI r) = some (iI r, h') ∧ RepA h' 182 0 184 (uI z 188 (z 188 + 1)) ∧ h' 0 13 = iI (uI z 188 (z 188 + 1) 188) ∧ ∀ i, ¬ own 0 184 i → h' i = h i := by
  unfold f_A_countRefusal
  rw [lI0, tEq (by omega) (by omega) (by omega) (by omega), if_neg h0, show fld 182 0 = 0 from rfl, h13, lI1, iI_add, Option.bind_some]
  refine ⟨_, rfl, (RA.s13 _).l89 (fun k h1 h2 _ => uI_n _ _ h2), ?_, fun i hi => hset_n _ _ _ (fun q => hi (Or.inl (by omega)))⟩
  rw [hset_s, upd_s, uI_s]
end CALLA
