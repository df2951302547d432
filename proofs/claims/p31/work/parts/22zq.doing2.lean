/-! what is done to a row: bounds; the reference's doing of it on its trial row -/
section DOING2
variable {h g : HP} {a b p : Nat} {z : Nat → Int} {B : Int}
theorem doP_ok (K : OKz B z) (k d w f : Int) : OKz B (doP k z d w f).2 := by
  unfold doP
  split
  · rename_i c
    obtain ⟨cd, cm⟩ := c
    obtain ⟨⟨w1, w2⟩, ⟨n1, n2⟩, -⟩ := id K.1
    split
    · rename_i c0
      exact K.st (by omega) (rsnP_wf K.1 (by omega) (by omega) ⟨cm.1, cm.2.1⟩ cm.2.2.1 c0)
    · exact K.rf _
  · exact K
theorem doS_ok (K : OKz B z) (k d e : Int) : OKz B (doS k z d e).2 := by
  unfold doS
  split
  · rename_i c
    obtain ⟨cd, ce, cn⟩ := c
    obtain ⟨⟨w1, w2⟩, ⟨n1, n2⟩, -⟩ := id K.1
    split
    · rename_i c0
      exact K.sw (by omega) (by omega) (zsw_wf K.1 (by omega) (by omega) (by omega) (by omega) (by omega) c0)
    · exact K.rf _
  · exact K
theorem doL_ok (K : OKz B z) (d : Int) : OKz B (doL z d).2 := by
  unfold doL
  split
  · rename_i c
    obtain ⟨⟨w1, w2⟩, ⟨n1, n2⟩, -⟩ := id K.1
    exact K.st (by omega) (wf_zst K.1 (by omega) (by omega) (Or.inl ⟨rfl, rfl⟩))
  · exact K
theorem doN_ok (K : OKz B z) (n : Int) : OKz (B + 42000) (doN z n).2 := by
  unfold doN
  split
  · exact K.dy (by omega)
  · exact K.mono (by omega)
theorem doE_ok (K : OKz B z) (j v : Int) : OKz B (doE z j v).2 := by
  unfold doE
  split
  · rename_i c
    have hm := maxS_b j.toNat
    refine K.u (wf_set K.1 (by omega) ⟨c.2.1, by omega⟩ (fun q => ?_)) ⟨by omega, by omega, by omega⟩
    have e : maxS j.toNat = 9 := if_pos q
    omega
  · exact K
theorem doO_ok (K : OKz B z) (w m v : Int) : OKz B (doO z w m v).2 := by
  unfold doO
  split
  · rename_i c
    obtain ⟨⟨w1, w2⟩, -⟩ := id K.1
    have hL := K.1.2.2.2.1 w.toNat (by omega)
    exact K.u (wf_plug K.1 (by omega) (by omega) c.2) ⟨by omega, by omega, by omega⟩
  · exact K
theorem doW_ok (K : OKz B z) (v : Int) : OKz B (doW z v).2 := by
  unfold doW
  split
  · rename_i c
    exact K.wl c.2 c.1
  · exact K
theorem doD_ok (K : OKz B z) (g f w : Int) : OKz B (doD z g f w).2 := by
  unfold doD
  split
  · rename_i c
    exact K.dl c.2 c.1.1 c.1.2.1 c.1.2.2
  · exact K
def chkZ (z : Nat → Int) (c : Prop) [Decidable c] : Rw := (decide c, z)
end DOING2
