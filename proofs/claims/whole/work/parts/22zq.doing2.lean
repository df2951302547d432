/-! what is done to a row: bounds; the reference's doing of it on its trial row -/
def MR (h : HP) (e : Option (Int32 × HP)) (D : Rw) : Prop := ∃ h', e = some (if D.1 = true then 1 else 0, h') ∧ RepM h' 202 D.2 ∧ ∀ i, i ≠ 202 → i ≠ 207 → i ≠ 208 → i ≠ 209 → h' i = h i
section DOING2
variable {h g : HP} {a b p : Nat} {z : Nat → Int} {B : Int}
theorem doP_ok (K : OKz B z) (k d w f : Int) : OKz B (doP k z d w f).2 := by
  unfold doP
  split
  · rename_i c
    obtain ⟨cd, cm⟩ := c
    obtain ⟨⟨w1, w2⟩, ⟨n1, n2⟩, -⟩ := id K.1
    split
    · rename_i c0
      exact K.st (by omega) (rsnP_wf K.1 (by omega) (by omega) ⟨cm.1, cm.2.1⟩ cm.2.2.1 c0)
    · exact K.rf _
  · exact K
theorem doS_ok (K : OKz B z) (k d e : Int) : OKz B (doS k z d e).2 := by
  unfold doS
  split
  · rename_i c
    obtain ⟨cd, ce, cn⟩ := c
    obtain ⟨⟨w1, w2⟩, ⟨n1, n2⟩, -⟩ := id K.1
    split
    · rename_i c0
      exact K.sw (by omega) (by omega) (zsw_wf K.1 (by omega) (by omega) (by omega) (by omega) (by omega) c0)
    · exact K.rf _
  · exact K
theorem doL_ok (K : OKz B z) (d : Int) : OKz B (doL z d).2 := by
  unfold doL
  split
  · rename_i c
    obtain ⟨⟨w1, w2⟩, ⟨n1, n2⟩, -⟩ := id K.1
    exact K.st (by omega) (wf_zst K.1 (by omega) (by omega) (Or.inl ⟨rfl, rfl⟩))
  · exact K
theorem doN_ok (K : OKz B z) (n : Int) : OKz (B + 42000) (doN z n).2 := by
  unfold doN
  split
  · exact K.dy (by omega)
  · exact K.mono (by omega)
theorem doE_ok (K : OKz B z) (j v : Int) : OKz B (doE z j v).2 := by
  unfold doE
  split
  · rename_i c
    have hm := maxS_b j.toNat
    refine K.u (wf_set K.1 (by omega) ⟨c.2.1, by omega⟩ (fun q => ?_)) ⟨by omega, by omega, by omega⟩
    have e : maxS j.toNat = 9 := if_pos q
    omega
  · exact K
theorem doO_ok (K : OKz B z) (w m v : Int) : OKz B (doO z w m v).2 := by
  unfold doO
  split
  · rename_i c
    obtain ⟨⟨w1, w2⟩, -⟩ := id K.1
    have hL := K.1.2.2.2.1 w.toNat (by omega)
    exact K.u (wf_plug K.1 (by omega) (by omega) c.2) ⟨by omega, by omega, by omega⟩
  · exact K
theorem doW_ok (K : OKz B z) (v : Int) : OKz B (doW z v).2 := by
  unfold doW
  split
  · rename_i c
    exact K.wl c.2 c.1
  · exact K
theorem doD_ok (K : OKz B z) (g f w : Int) : OKz B (doD z g f w).2 := by
  unfold doD
  split
  · rename_i c
    exact K.dl c.2 c.1.1 c.1.2.1 c.1.2.2
  · exact K
theorem MR.no {e : Option (Int32 × HP)} {D : Rw} (R : RepM h 202 z) (e1 : e = some (0, h)) (e2 : D = (false, z)) : MR h e D := by
  refine ⟨h, ?_, by rw [e2]; exact R, fun _ _ _ _ _ => rfl⟩
  rw [e1, e2]
  rfl
theorem MR.yes {e : Option (Int32 × HP)} {D : Rw} {h' : HP} {z' : Nat → Int} (R : RepM h' 202 z') (e1 : e = some (1, h')) (e2 : D = (true, z')) (fr : ∀ i, i ≠ 202 → i ≠ 207 → i ≠ 208 → i ≠ 209 → h' i = h i) : MR h e D := by
  refine ⟨h', ?_, by rw [e2]; exact R, fr⟩
  rw [e1, e2]
  rfl
theorem m_runPlace (R : RepM h 202 z) (F : WF z) {d w f : Int} (hd : InR d) (hw : InR w) (hf : InR f) : MR h (f_M_runPlace h 200 (iI d) (iI w) (iI f)) (doP 1 z d w f) := by
  obtain ⟨⟨w1, w2⟩, ⟨n1, n2⟩, -⟩ := id F
  by_cases c : okD z d ∧ okM z w f
  · obtain ⟨cd, cm⟩ := c
    have hL := F.2.2.2.1 w.toNat (by omega)
    obtain ⟨h', p1, p2, p3⟩ := m_goPlace R F (d := d.toNat) (by omega) (by omega) (w := w) (f := f) ⟨cm.1, by omega⟩ ⟨cm.2.2.1, by omega⟩
    rw [show ((d.toNat : Nat) : Int) = d by omega] at p1
    have hb := rsnP_b z d.toNat w f
    have e : f_M_runPlace h 200 (iI d) (iI w) (iI f) = some (if rsnP z d.toNat w f = 0 then 1 else 0, h') := by
      unfold f_M_runPlace
      rw [fA2, m_isDealer R F hd, Option.bind_some, if_pos cd, if_neg (by decide), m_isMetre R F hw hf, Option.bind_some, if_pos cm, if_neg (by decide), p1, Option.bind_some]
      dsimp only
      rw [lI0, tEq (by omega) (by omega) (by omega) (by omega), ← lI0]
      split <;> rfl
    by_cases c0 : rsnP z d.toNat w f = 0
    · rw [if_pos c0] at p2 e
      exact MR.yes p2 e (by unfold doP; rw [if_pos ⟨cd, cm⟩, if_pos c0]) (fun i i1 _ _ _ => p3 i i1)
    · rw [if_neg c0] at p2 e
      have ed : doP 1 z d w f = (false, uI z 188 (z 188 + 1)) := by unfold doP; rw [if_pos ⟨cd, cm⟩, if_neg c0]
      exact ⟨h', by rw [ed]; exact e, by rw [ed]; exact p2, fun i i1 _ _ _ => p3 i i1⟩
  · refine MR.no R ?_ (if_neg c)
    unfold f_M_runPlace
    rw [fA2, m_isDealer R F hd, Option.bind_some]
    by_cases cd : okD z d
    · rw [if_pos cd, if_neg (by decide), m_isMetre R F hw hf, Option.bind_some, if_neg (fun q => c ⟨cd, q⟩), if_pos rfl]
    · rw [if_neg cd, if_pos rfl]
theorem m_runSwap (R : RepM h 202 z) (F : WF z) {d e : Int} (hd : InR d) (he : InR e) : MR h (f_M_runSwap h 200 (iI d) (iI e)) (doS 1 z d e) := by
  obtain ⟨⟨w1, w2⟩, ⟨n1, n2⟩, -⟩ := id F
  by_cases c : okD z d ∧ okD z e ∧ d ≠ e
  · obtain ⟨cd, ce, cn⟩ := c
    obtain ⟨h', p1, p2, p3⟩ := m_goSwap R F (x := d.toNat) (y := e.toNat) (by omega) (by omega) (by omega) (by omega) (by omega)
    rw [show ((d.toNat : Nat) : Int) = d by omega, show ((e.toNat : Nat) : Int) = e by omega] at p1
    have hb := rsnS_b z d.toNat e.toNat
    have cn' : ¬ iI d = iI e := fun q => cn ((iI_eq hd.1 hd.2 he.1 he.2).mp q)
    have ee : f_M_runSwap h 200 (iI d) (iI e) = some (if rsnS z d.toNat e.toNat = 0 then 1 else 0, h') := by
      unfold f_M_runSwap
      rw [fA2, m_areDealers R F hd he, Option.bind_some, if_pos (show (0 ≤ d ∧ d < z 185) ∧ 0 ≤ e ∧ e < z 185 from ⟨cd, ce⟩), if_neg (show ¬ (1 : Int32) = 0 by decide), if_neg cn', p1, Option.bind_some]
      dsimp only
      rw [lI0, tEq (by omega) (by omega) (by omega) (by omega), ← lI0]
      split <;> rfl
    by_cases c0 : rsnS z d.toNat e.toNat = 0
    · rw [if_pos c0] at p2 ee
      exact MR.yes p2 ee (by unfold doS; rw [if_pos ⟨cd, ce, cn⟩, if_pos c0]) (fun i i1 _ _ _ => p3 i i1)
    · rw [if_neg c0] at p2 ee
      have ed : doS 1 z d e = (false, uI z 188 (z 188 + 1)) := by unfold doS; rw [if_pos ⟨cd, ce, cn⟩, if_neg c0]
      exact ⟨h', by rw [ed]; exact ee, by rw [ed]; exact p2, fun i i1 _ _ _ => p3 i i1⟩
  · refine MR.no R ?_ (if_neg c)
    unfold f_M_runSwap
    rw [fA2, m_areDealers R F hd he, Option.bind_some]
    by_cases cd : okD z d ∧ okD z e
    · have : iI d = iI e := by rw [show d = e by omega]
      rw [if_pos cd, if_neg (by decide), if_pos this]
    · rw [if_neg cd, if_pos rfl]
theorem m_runLeave (R : RepM h 202 z) (F : WF z) (O : WO B z) (hB : B < 2147483648) {d : Int} (hd : InR d) : MR h (f_M_runLeave h 200 (iI d)) (doL z d) := by
  obtain ⟨⟨w1, w2⟩, ⟨n1, n2⟩, -⟩ := id F
  unfold f_M_runLeave
  rw [fA2, m_isDealer R F hd, Option.bind_some]
  by_cases cd : okD z d
  · obtain ⟨e, he, rfl⟩ : ∃ e : Nat, (e : Int) < z 185 ∧ d = e := ⟨d.toNat, by omega, by omega⟩
    rw [if_pos cd, if_neg (by decide), m_stands R F (d := e) (by omega) he, Option.bind_some]
    by_cases cs : z (127 + 6 * e) = -1
    · rw [if_pos cs, if_pos rfl]
      exact MR.no R rfl (if_neg (fun q => q.2 cs))
    · obtain ⟨h', p1, p2, p3⟩ := m_goLeave R (d := e) (by omega)
      have := O e (by omega)
      rw [if_neg cs, if_neg (by decide), p1, Option.bind_some]
      dsimp only
      rw [lI0, tLt (by omega) (by omega) (by omega) (by omega), if_neg (by omega)]
      exact MR.yes p2 rfl (if_pos ⟨cd, cs⟩) (fun i i1 _ _ _ => p3 i i1)
  · rw [if_neg cd, if_pos rfl]
    exact MR.no R rfl (if_neg (fun q => cd q.1))
theorem m_runDays (R : RepM h 202 z) (F : WF z) {n : Int} (hn : InR n) : MR h (f_M_runDays h 200 (iI n)) (doN z n) := by
  have rm := in64 h hn ⟨by decide, by decide⟩ ⟨by decide, by decide⟩ l641 l6460
  unfold f_M_runDays
  rw [rm, Option.bind_some]
  by_cases c : 1 ≤ n ∧ n ≤ 60
  · obtain ⟨h', p1, p2, p3⟩ := m_goDays (Or.inr (Or.inl rfl)) F R (n := n.toNat) (by omega)
    rw [show ((n.toNat : Nat) : Int) = n by omega] at p1
    have hr := rts_b F
    have := mulb (a := n) (A := 60) (by omega) (by omega) hr.1 hr.2
    rw [if_pos c, if_neg (by decide), fA2, p1, Option.bind_some]
    dsimp only
    rw [lI0, tLt (by omega) (by omega) (by omega) (by omega), if_neg (by omega)]
    exact MR.yes p2 rfl (if_pos c) p3
  · rw [if_neg c, if_pos rfl]
    exact MR.no R rfl (if_neg c)
theorem m_runSet (R : RepM h 202 z) (F : WF z) {j v : Int} (hj : InR j) (hv : InR v) : MR h (f_M_runSet h 200 (iI j) (iI v)) (doE z j v) := by
  unfold f_M_runSet
  rw [m_isSet hj hv, Option.bind_some]
  by_cases c : setP j v
  · obtain ⟨h', p1, p2, p3⟩ := m_put R (k := 190 + j) (by omega) (by omega) v
    rw [show (190 + j).toNat = 190 + j.toNat by omega] at p1 p2
    have := F.2.2.2.2.2.2.2.2.1 j.toNat (by omega)
    rw [if_pos c, if_neg (by decide), fA2, lI190, iI_add, p1, Option.bind_some]
    dsimp only
    rw [lI0, tLt (by omega) (by omega) (by omega) (by omega), if_neg (by omega)]
    exact MR.yes p2 rfl (if_pos c) (fun i i1 _ _ _ => p3 i i1)
  · rw [if_neg c, if_pos rfl]
    exact MR.no R rfl (if_neg c)
theorem m_runOutlet (R : RepM h 202 z) (F : WF z) {w m v : Int} (hw : InR w) (hm : InR m) (hv : InR v) : MR h (f_M_runOutlet h 200 (iI w) (iI m) (iI v)) (doO z w m v) := by
  obtain ⟨⟨w1, w2⟩, -⟩ := id F
  have rm := in64 h hv ⟨by decide, by decide⟩ ⟨by decide, by decide⟩ l640 l644
  unfold f_M_runOutlet
  rw [fA2, m_isMetre R F hw hm, Option.bind_some]
  by_cases cm : okM z w m
  · have hL := F.2.2.2.1 w.toNat (by omega)
    rw [if_pos cm, if_neg (by decide), rm, Option.bind_some]
    by_cases c : 0 ≤ v ∧ v ≤ 4
    · obtain ⟨h', p1, p2, p3⟩ := m_put R (k := 31 * w + 1 + m) (by omega) (by omega) v
      rw [show (31 * w + 1 + m).toNat = 31 * w.toNat + 1 + m.toNat by omega] at p1 p2
      have := F.2.2.2.2.1 w.toNat m.toNat (by omega) (by omega)
      rw [if_pos c, if_neg (by decide), lI31, iI_mul, lI1, iI_add, iI_add, p1, Option.bind_some]
      dsimp only
      rw [lI0, tLt (by omega) (by omega) (by omega) (by omega), if_neg (by omega), ← lI1]
      exact MR.yes p2 rfl (if_pos ⟨cm, c⟩) (fun i i1 _ _ _ => p3 i i1)
    · rw [if_neg c, if_pos rfl]
      exact MR.no R rfl (if_neg (fun q => c q.2))
  · rw [if_neg cm, if_pos rfl]
    exact MR.no R rfl (if_neg (fun q => cm q.1))
def chkZ (z : Nat → Int) (c : Prop) [Decidable c] : Rw := (decide c, z)
theorem m_isCheap (R : RepM h 202 z) (F : WF z) {d t : Int} (hd : InR d) (ht : 0 ≤ t ∧ t ≤ 1000) : ∃ h', f_M_isCheap h 200 (iI d) (iI t) = some (if okD z d ∧ rentZ z d.toNat ≤ t then 1 else 0, h') ∧ RepM h' 202 z ∧ ∀ i, i ≠ 202 → i ≠ 207 → i ≠ 208 → i ≠ 209 → h' i = h i := by
  obtain ⟨⟨w1, w2⟩, ⟨n1, n2⟩, -⟩ := id F
  obtain ⟨h1, g1, g2, g3⟩ := m_share (Or.inr (Or.inl rfl)) F h R
  have R1 : RepM h1 202 z := R.fr (g3 _ (by decide) (by decide) (by decide))
  refine ⟨h1, ?_, R1, fun i _ i1 i2 i3 => g3 i i1 i2 i3⟩
  unfold f_M_isCheap
  rw [fA2, g1, Option.bind_some, m_isDealer R1 F hd, Option.bind_some]
  by_cases cd : okD z d
  · obtain ⟨e, he, rfl⟩ : ∃ e : Nat, (e : Int) < z 185 ∧ d = e := ⟨d.toNat, by omega, by omega⟩
    have hb := rent_b F (d := e) (by omega)
    have et : ((e : Nat) : Int).toNat = e := by omega
    rw [if_pos cd, if_neg (by decide), m_rent R1 g2 F (d := e) (by omega) he, Option.bind_some, tLt (by omega) (by omega) (by omega) (by omega), et]
    by_cases q : t < rentZ z e
    · rw [if_pos q, if_neg (by omega)]
    · rw [if_neg q, if_pos ⟨cd, by omega⟩]
  · rw [if_neg cd, if_pos rfl, if_neg (fun q => cd q.1)]
theorem m_isFed (R : RepM h 202 z) (F : WF z) {d t : Int} (hd : InR d) (ht : 0 ≤ t ∧ t ≤ 1000) : ∃ h', f_M_isFed h 200 (iI d) (iI t) = some (if okD z d ∧ t ≤ (shareZ z).2.1 d.toNat then 1 else 0, h') ∧ RepM h' 202 z ∧ ∀ i, i ≠ 202 → i ≠ 207 → i ≠ 208 → i ≠ 209 → h' i = h i := by
  obtain ⟨⟨w1, w2⟩, ⟨n1, n2⟩, -⟩ := id F
  obtain ⟨h1, g1, g2, g3⟩ := m_share (Or.inr (Or.inl rfl)) F h R
  have R1 : RepM h1 202 z := R.fr (g3 _ (by decide) (by decide) (by decide))
  refine ⟨h1, ?_, R1, fun i _ i1 i2 i3 => g3 i i1 i2 i3⟩
  unfold f_M_isFed
  rw [fA2, g1, Option.bind_some, m_isDealer R1 F hd, Option.bind_some]
  by_cases cd : okD z d
  · obtain ⟨e, he, rfl⟩ : ∃ e : Nat, (e : Int) < z 185 ∧ d = e := ⟨d.toNat, by omega, by omega⟩
    have hb := had_b F e
    have et : ((e : Nat) : Int).toNat = e := by omega
    rw [if_pos cd, if_neg (by decide), e2_ (d := e) (by omega), if_pos rfl, e1_ (d := e) (by omega), fA9, g2.2.1 e (by omega), tLt (by omega) (by omega) (by omega) (by omega), et]
    by_cases q : (shareZ z).2.1 e < t
    · rw [if_pos q, if_neg (by omega)]
    · rw [if_neg q, if_pos ⟨cd, by omega⟩]
  · rw [if_neg cd, if_pos rfl, if_neg (fun q => cd q.1)]
end DOING2
