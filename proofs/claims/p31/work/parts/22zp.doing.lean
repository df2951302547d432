/-! what is done to a row, and the class's doing of it, for any arguments -/
abbrev okD (z : Nat → Int) (d : Int) : Prop := 0 ≤ d ∧ d < z 185
abbrev okM (z : Nat → Int) (w m : Int) : Prop := 0 ≤ w ∧ w < z 184 ∧ 0 ≤ m ∧ m < z (31 * w.toNat)
abbrev Rw : Type := Bool × (Nat → Int)
def doP (k : Int) (z : Nat → Int) (d w f : Int) : Rw := if okD z d ∧ okM z w f then (if rsnP z d.toNat w f = 0 then (true, zst z d.toNat w f) else (false, uI z 188 (z 188 + k))) else (false, z)
def doS (k : Int) (z : Nat → Int) (d e : Int) : Rw := if okD z d ∧ okD z e ∧ d ≠ e then (if rsnS z d.toNat e.toNat = 0 then (true, zsw z d.toNat e.toNat) else (false, uI z 188 (z 188 + k))) else (false, z)
def doL (z : Nat → Int) (d : Int) : Rw := if okD z d ∧ z (127 + 6 * d.toNat) ≠ -1 then (true, zst z d.toNat (-1) (-1)) else (false, z)
noncomputable def doN (z : Nat → Int) (n : Int) : Rw := if 1 ≤ n ∧ n ≤ 60 then (true, zdy z n.toNat) else (false, z)
def doE (z : Nat → Int) (j v : Int) : Rw := if setP j v then (true, uI z (190 + j.toNat) v) else (false, z)
def doO (z : Nat → Int) (w m v : Int) : Rw := if okM z w m ∧ 0 ≤ v ∧ v ≤ 4 then (true, uI z (31 * w.toNat + 1 + m.toNat) v) else (false, z)
def doW (z : Nat → Int) (v : Int) : Rw := if (4 ≤ v ∧ v ≤ 30) ∧ z 184 < 4 then (true, zwl z v) else (false, z)
def doD (z : Nat → Int) (g f w : Int) : Rw := if kindP g f w ∧ z 185 < 10 then (true, zdl z g f w) else (false, z)
def CR (z0 : Int) (h : HP) (a b p : Nat) (e : Option (Int32 × HP)) (D : Rw) : Prop := ∃ r h', e = some (iI r, h') ∧ InR r ∧ (r = z0 ↔ D.1 = decide (z0 = 0)) ∧ RepA h' a b p D.2 ∧ (∀ i, ¬ own b p i → h' i = h i) ∧ h' b 13 = h b 13
section DOING
variable {h g : HP} {a b p : Nat} {z : Nat → Int} {B : Int}
theorem CR.t0 {e : Option (Int32 × HP)} {D : Rw} (C : CR 0 h a b p e D) : ∃ h', (e.bind fun v => if v.1 = 0 then some ((1 : Int32), v.2) else some ((0 : Int32), v.2)) = some (if D.1 = true then 1 else 0, h') ∧ RepA h' a b p D.2 ∧ (∀ i, ¬ own b p i → h' i = h i) ∧ h' b 13 = h b 13 := by
  obtain ⟨r, h', e1, ⟨r1, r2⟩, r3, r4, r5, r6⟩ := C
  refine ⟨h', ?_, r4, r5, r6⟩
  rw [e1, Option.bind_some]
  dsimp only
  rw [lI0, tEq (by omega) (by omega) (by omega) (by omega)]
  by_cases c : D.1 = true
  · rw [if_pos c, if_pos (r3.mpr c)]
  · rw [if_neg c, if_neg (fun q => c (r3.mp q))]
theorem CR.t1 {e : Option (Int32 × HP)} {D : Rw} (C : CR (-1) h a b p e D) : ∃ h', (e.bind fun v => if v.1 = (-1 : Int32) then some ((0 : Int32), v.2) else some ((1 : Int32), v.2)) = some (if D.1 = true then 1 else 0, h') ∧ RepA h' a b p D.2 ∧ (∀ i, ¬ own b p i → h' i = h i) ∧ h' b 13 = h b 13 := by
  obtain ⟨r, h', e1, ⟨r1, r2⟩, r3, r4, r5, r6⟩ := C
  refine ⟨h', ?_, r4, r5, r6⟩
  rw [e1, Option.bind_some]
  dsimp only
  rw [show (-1 : Int32) = iI (-1) from by decide, tEq (by omega) (by omega) (by omega) (by omega)]
  have r3' : r = -1 ↔ D.1 = false := r3
  by_cases c : D.1 = true
  · rw [if_pos c, if_neg (fun q => by rw [r3'.mp q] at c; exact absurd c (by decide))]
  · rw [if_neg c, if_pos (r3'.mpr (by cases q : D.1 with | false => rfl | true => exact absurd q c))]
theorem CR.tu {z0 : Int} {e : Option (Int32 × HP)} {D : Rw} (C : CR z0 h a b p e D) : ∃ h', (e.bind fun v => some v.2) = some h' ∧ RepA h' a b p D.2 ∧ (∀ i, ¬ own b p i → h' i = h i) ∧ h' b 13 = h b 13 := by
  obtain ⟨r, h', e1, ⟨r1, r2⟩, r3, r4, r5, r6⟩ := C
  exact ⟨h', by rw [e1, Option.bind_some], r4, r5, r6⟩
theorem CR.bad {D : Rw} {e : Option (Int32 × HP)} {z0 : Int} (RA : RepA h a b p z) (e1 : e = some (iI (-1), h)) (e2 : D = (false, z)) (h0 : z0 = 0 ∨ z0 = -1) : CR z0 h a b p e D := by
  refine ⟨-1, h, e1, ⟨by decide, by decide⟩, ?_, by rw [e2]; exact RA, fun _ _ => rfl, rfl⟩
  rw [e2]
  rcases h0 with rfl | rfl
  · exact ⟨fun q => absurd q (by decide), fun q => absurd (show false = true from q) (by decide)⟩
  · exact ⟨fun _ => rfl, fun _ => rfl⟩
theorem m1I : (-1 : Int32) = iI (-1) := by decide
theorem c_place (RA : RepA h a b p z) (k : Int) {d w f : Int} (hd : InR d) (hw : InR w) (hf : InR f) : CR 0 h a b p (f_A_letStand h a (iI d) (iI w) (iI f)) (doP k z d w f) := by
  obtain ⟨S, R, RP, F⟩ := id RA
  obtain ⟨⟨w1, w2⟩, ⟨n1, n2⟩, -⟩ := id F
  by_cases c : okD z d ∧ okM z w f
  · obtain ⟨cd, cm⟩ := c
    obtain ⟨h', k1, k2, k3, k4, -⟩ := a_letStand RA (d := d.toNat) (by omega) (by omega) (w := w) (f := f) ⟨cm.1, cm.2.1⟩ cm.2.2
    rw [show ((d.toNat : Nat) : Int) = d by omega] at k1
    have hb := rsnP_b z d.toNat w f
    by_cases c0 : rsnP z d.toNat w f = 0
    · have ed : doP k z d w f = (true, zst z d.toNat w f) := by unfold doP; rw [if_pos ⟨cd, cm⟩, if_pos c0]
      rw [if_pos c0] at k2
      exact ⟨_, h', k1, ⟨by omega, by omega⟩, by rw [ed]; exact ⟨fun _ => rfl, fun _ => c0⟩, by rw [ed]; exact k2, k3, by rw [k4]⟩
    · have ed : doP k z d w f = (false, uI z 188 (z 188 + k)) := by unfold doP; rw [if_pos ⟨cd, cm⟩, if_neg c0]
      rw [if_neg c0] at k2
      exact ⟨_, h', k1, ⟨by omega, by omega⟩, by rw [ed]; exact ⟨fun q => absurd q c0, fun q => absurd (show false = true from q) (by decide)⟩, by rw [ed]; exact k2.l89 (fun k _ q _ => uI_n _ _ q), k3, by rw [k4]⟩
  · have ed : doP k z d w f = (false, z) := if_neg c
    refine CR.bad RA ?_ ed (Or.inl rfl)
    unfold f_A_letStand f_A_placeReason
    rw [S.f0, s_hasDealer R F hd, Option.bind_some]
    by_cases cd : okD z d
    · rw [if_pos cd, if_neg (by decide), s_hasMetre R S.bs F hw hf, Option.bind_some, if_neg (fun q => c ⟨cd, q⟩), if_pos rfl, Option.bind_some, if_neg (by decide)]
      rfl
    · rw [if_neg cd, if_pos rfl, Option.bind_some, if_neg (by decide)]
      rfl
theorem c_swap (RA : RepA h a b p z) (k : Int) {d e : Int} (hd : InR d) (he : InR e) : CR 0 h a b p (f_A_exchange h a (iI d) (iI e)) (doS k z d e) := by
  obtain ⟨S, R, RP, F⟩ := id RA
  obtain ⟨⟨w1, w2⟩, ⟨n1, n2⟩, -⟩ := id F
  by_cases c : okD z d ∧ okD z e ∧ d ≠ e
  · obtain ⟨cd, ce, cn⟩ := c
    obtain ⟨h', k1, k2, k3, k4⟩ := a_exchange RA (x := d.toNat) (y := e.toNat) (by omega) (by omega) (by omega) (by omega) (by omega)
    rw [show ((d.toNat : Nat) : Int) = d by omega, show ((e.toNat : Nat) : Int) = e by omega] at k1
    have hb := rsnS_b z d.toNat e.toNat
    by_cases c0 : rsnS z d.toNat e.toNat = 0
    · have ed : doS k z d e = (true, zsw z d.toNat e.toNat) := by unfold doS; rw [if_pos ⟨cd, ce, cn⟩, if_pos c0]
      rw [if_pos c0] at k2
      exact ⟨_, h', k1, ⟨by omega, by omega⟩, by rw [ed]; exact ⟨fun _ => rfl, fun _ => c0⟩, by rw [ed]; exact k2, k3, k4⟩
    · have ed : doS k z d e = (false, uI z 188 (z 188 + k)) := by unfold doS; rw [if_pos ⟨cd, ce, cn⟩, if_neg c0]
      rw [if_neg c0] at k2
      exact ⟨_, h', k1, ⟨by omega, by omega⟩, by rw [ed]; exact ⟨fun q => absurd q c0, fun q => absurd (show false = true from q) (by decide)⟩, by rw [ed]; exact k2.l89 (fun k _ q _ => uI_n _ _ q), k3, k4⟩
  · have ed : doS k z d e = (false, z) := if_neg c
    refine CR.bad RA ?_ ed (Or.inl rfl)
    unfold f_A_exchange f_A_swapReason
    rw [S.f0, s_hasDealer R F hd, s_hasDealer R F he, Option.bind_some]
    obtain ⟨d1, d2⟩ := hd
    obtain ⟨e1, e2⟩ := he
    by_cases cd : okD z d
    · rw [if_pos cd, if_neg (by decide), Option.bind_some]
      by_cases ce : okD z e
      · rw [if_pos ce, if_neg (by decide), tEq (by omega) (by omega) (by omega) (by omega), if_pos (by omega), Option.bind_some, if_neg (by decide)]
        rfl
      · rw [if_neg ce, if_pos rfl, Option.bind_some, if_neg (by decide)]
        rfl
    · rw [if_neg cd, if_pos rfl, Option.bind_some, if_neg (by decide)]
      rfl
theorem CR.good {D : Rw} {e : Option (Int32 × HP)} {h' : HP} {r : Int} {z' : Nat → Int} (e1 : e = some (iI r, h')) (e2 : D = (true, z')) (hr : 0 ≤ r ∧ r < 2147483648) (RA : RepA h' a b p z') (fr : ∀ i, ¬ own b p i → h' i = h i) (e13 : h' b 13 = h b 13) : CR (-1) h a b p e D := by
  refine ⟨r, h', e1, ⟨by omega, by omega⟩, ?_, by rw [e2]; exact RA, fr, e13⟩
  rw [e2]
  exact ⟨fun q => by omega, fun q => absurd (show true = false from q) (by decide)⟩
theorem c_leave (RA : RepA h a b p z) (O : WO B z) (hB : B < 2147483648) {d : Int} (hd : InR d) : CR (-1) h a b p (f_A_sendAway h a (iI d)) (doL z d) := by
  obtain ⟨S, R, RP, F⟩ := id RA
  obtain ⟨⟨w1, w2⟩, ⟨n1, n2⟩, -⟩ := id F
  by_cases c : okD z d ∧ z (127 + 6 * d.toNat) ≠ -1
  · obtain ⟨cd, cs⟩ := c
    obtain ⟨h', k1, k2, k3, k4, -⟩ := a_sendAway RA (d := d.toNat) (by omega) (by omega)
    rw [show ((d.toNat : Nat) : Int) = d by omega, if_neg cs] at k1
    have := O d.toNat (by omega)
    exact CR.good k1 (by unfold doL; rw [if_pos ⟨cd, cs⟩]) ⟨by omega, by omega⟩ k2 k3 (by rw [k4])
  · have ed : doL z d = (false, z) := if_neg c
    refine CR.bad RA ?_ ed (Or.inr rfl)
    have hs := s_stands R S.bs F hd
    rw [if_neg (fun q => c ⟨⟨q.1, q.2.1⟩, q.2.2⟩)] at hs
    unfold f_A_sendAway
    rw [S.f0, hs, Option.bind_some, if_pos rfl, m1I]
theorem c_days (RA : RepA h a b p z) {n : Int} (hn : InR n) : CR (-1) h a b p (f_A_passDays h a (iI n)) (doN z n) := by
  obtain ⟨S, R, RP, F⟩ := id RA
  obtain ⟨⟨w1, w2⟩, ⟨n1, n2⟩, -⟩ := id F
  by_cases c : 1 ≤ n ∧ n ≤ 60
  · obtain ⟨h', k1, k2, k3, k4⟩ := a_passDays RA (n := n.toNat) (by omega) (by omega)
    rw [show ((n.toNat : Nat) : Int) = n by omega] at k1
    have hr := rts_b F
    have := mulb (a := n) (A := 60) (by omega) (by omega) hr.1 hr.2
    exact CR.good k1 (by unfold doN; rw [if_pos c]) ⟨by omega, by omega⟩ k2 k3 k4
  · refine CR.bad RA ?_ (if_neg c) (Or.inr rfl)
    have r := in32 h hn ⟨by decide, by decide⟩ ⟨by decide, by decide⟩ lI1 lI60
    rw [if_neg c] at r
    unfold f_A_passDays
    rw [r, Option.bind_some, if_pos rfl, m1I]
theorem c_set (RA : RepA h a b p z) {j v : Int} (hj : InR j) (hv : InR v) : CR (-1) h a b p (f_A_changeSetting h a (iI j) (iI v)) (doE z j v) := by
  obtain ⟨S, R, RP, F⟩ := id RA
  obtain ⟨⟨w1, w2⟩, ⟨n1, n2⟩, -⟩ := id F
  by_cases c : setP j v
  · obtain ⟨h', k1, k2, k3, k4⟩ := a_setting RA (j := j.toNat) (by omega) c.2
    rw [show ((j.toNat : Nat) : Int) = j by omega] at k1
    have := F.2.2.2.2.2.2.2.2.1 j.toNat (by omega)
    exact CR.good k1 (by unfold doE; rw [if_pos c]) ⟨by omega, by omega⟩ k2 k3 k4
  · refine CR.bad RA ?_ (if_neg c) (Or.inr rfl)
    unfold f_A_changeSetting
    rw [a_isSet hj hv, Option.bind_some, if_neg c, if_pos rfl, m1I]
theorem c_outlet (RA : RepA h a b p z) {w m v : Int} (hw : InR w) (hm : InR m) (hv : InR v) : CR (-1) h a b p (f_A_putPlugs h a (iI w) (iI m) (iI v)) (doO z w m v) := by
  obtain ⟨S, R, RP, F⟩ := id RA
  obtain ⟨⟨w1, w2⟩, ⟨n1, n2⟩, -⟩ := id F
  by_cases c : okM z w m ∧ 0 ≤ v ∧ v ≤ 4
  · obtain ⟨cm, cv⟩ := c
    have hL := F.2.2.2.1 w.toNat (by omega)
    obtain ⟨h', k1, k2, k3, k4⟩ := a_putPlugs RA (w := w.toNat) (m := m.toNat) (by omega) (by omega) cv
    rw [show ((w.toNat : Nat) : Int) = w by omega, show ((m.toNat : Nat) : Int) = m by omega] at k1
    have := F.2.2.2.2.1 w.toNat m.toNat (by omega) (by omega)
    exact CR.good k1 (by unfold doO; rw [if_pos ⟨cm, cv⟩]) ⟨by omega, by omega⟩ k2 k3 k4
  · refine CR.bad RA ?_ (if_neg c) (Or.inr rfl)
    have r := in32 h hv ⟨by decide, by decide⟩ ⟨by decide, by decide⟩ lI0 lI4
    unfold f_A_putPlugs
    rw [S.f0, s_hasMetre R S.bs F hw hm, Option.bind_some]
    by_cases cm : okM z w m
    · rw [if_neg (fun q => c ⟨cm, q⟩)] at r
      rw [if_pos cm, if_neg (by decide), r, Option.bind_some, if_pos rfl, m1I]
    · rw [if_neg cm, if_pos rfl, m1I]
theorem c_wall (RA : RepA h a b p z) {v : Int} (hv : InR v) : CR (-1) h a b p (f_A_openWall h a (iI v)) (doW z v) := by
  obtain ⟨S, R, RP, F⟩ := id RA
  obtain ⟨⟨w1, w2⟩, ⟨n1, n2⟩, -⟩ := id F
  by_cases c : (4 ≤ v ∧ v ≤ 30) ∧ z 184 < 4
  · obtain ⟨h', k1, k2, k3, k4⟩ := a_openWall RA c.2 c.1
    exact CR.good k1 (by unfold doW; rw [if_pos c]) ⟨by omega, by omega⟩ k2 k3 k4
  · refine CR.bad RA ?_ (if_neg c) (Or.inr rfl)
    unfold f_A_openWall
    rw [a_isLength hv, Option.bind_some]
    by_cases cv : 4 ≤ v ∧ v ≤ 30
    · rw [if_pos cv, if_neg (by decide), S.f0, R.nw, lI0, tLt (by omega) (by omega) (by omega) (by omega), if_neg (by omega), lI4, tLt (by omega) (by omega) (by omega) (by omega), if_neg (fun q => c ⟨cv, q⟩), m1I]
    · rw [if_neg cv, if_pos rfl, m1I]
theorem c_dealer (RA : RepA h a b p z) (O : WO B z) {g f w : Int} (hg : InR g) (hf : InR f) (hw : InR w) : CR (-1) h a b p (f_A_admit h a (iI g) (iI f) (iI w)) (doD z g f w) := by
  obtain ⟨S, R, RP, F⟩ := id RA
  obtain ⟨⟨w1, w2⟩, ⟨n1, n2⟩, -⟩ := id F
  by_cases c : kindP g f w ∧ z 185 < 10
  · obtain ⟨h', k1, k2, k3, k4⟩ := a_admit RA c.2 ((O (z 185).toNat (by omega)).2.2 (by omega)) c.1.1 c.1.2.1 c.1.2.2
    exact CR.good k1 (by unfold doD; rw [if_pos c]) ⟨by omega, by omega⟩ k2 k3 k4
  · refine CR.bad RA ?_ (if_neg c) (Or.inr rfl)
    unfold f_A_admit
    rw [a_isDealer hg hf hw, Option.bind_some]
    by_cases cv : kindP g f w
    · rw [if_pos cv, if_neg (by decide), S.f0, R.nd, lI0, tLt (by omega) (by omega) (by omega) (by omega), if_neg (by omega), lI10, tLt (by omega) (by omega) (by omega) (by omega), if_neg (fun q => c ⟨cv, q⟩), m1I]
    · rw [if_neg cv, if_pos rfl, m1I]
end DOING
