/-! the reference's sums that share first -/
section ASK3
variable {h g : HP} {a b p : Nat} {z : Nat → Int} {B : Int}
theorem m_standing (R : RepM h a z) (F : WF z) : f_M_standing h a = some (iI (hasZ z)) := by
  obtain ⟨⟨w1, w2⟩, ⟨n1, n2⟩, -⟩ := id F
  have := m_standing1 R F (z 185).toNat 0 4096 0 (by omega) (by omega)
  rw [Int.zero_add] at this
  unfold f_M_standing
  rw [lI0]
  exact this
theorem m_metres (R : RepM h a z) (F : WF z) : f_M_metres h a = some (iI (metZ z)) := by
  obtain ⟨⟨w1, w2⟩, ⟨n1, n2⟩, -⟩ := id F
  have := m_metres1 R F (z 184).toNat 0 4096 0 (by omega) (by omega)
  rw [Int.zero_add] at this
  unfold f_M_metres
  rw [lI0]
  exact this
theorem m_lessF (R : RepM h a z) (F : WF z) {x : Int} (hx : 0 ≤ x ∧ x < 4) : f_M_lessFronts h a (iI x) = some (iI (z (31 * x.toNat) - frwZ z x)) := by
  obtain ⟨⟨w1, w2⟩, ⟨n1, n2⟩, -⟩ := id F
  have := m_less1 R F hx (z 185).toNat 0 4096 (z (31 * x.toNat)) (by omega) (by omega)
  unfold f_M_lessFronts
  rw [m_sizeI R hx.1 hx.2, Option.bind_some, lI0]
  exact this
theorem fA1 : fld 200 1 = 201 := rfl
theorem fA2 : fld 200 2 = 202 := rfl
theorem fA3 : fld 200 3 = 203 := rfl
theorem fA8 : fld 200 8 = 207 := rfl
theorem fA9 : fld 200 9 = 208 := rfl
theorem fA10 : fld 200 10 = 209 := rfl
theorem m_sumF1 (R : RepM h 201 z) (F : WF z) : ∀ (n d fu : Nat) (acc : Int), (d : Int) + n = z 184 → n < fu → f_M_sumWalls_4 h fu 200 (iI 0) (iI acc) (iI d) = some (iI (acc + sm (fun d => freZ z d) n d)) := by
  obtain ⟨⟨w1, w2⟩, ⟨n1, n2⟩, -⟩ := id F
  intro n
  induction n with
  | zero =>
    intro d fu acc hd hfu
    obtain ⟨fu, rfl⟩ : ∃ k, fu = k + 1 := ⟨fu - 1, by omega⟩
    rw [f_M_sumWalls_4, fA1, ib_184, if_pos rfl, cl_184, R.c184, tLe (by omega) (by omega) (by omega) (by omega), if_pos (by omega)]
    show some (iI (acc)) = some (iI (acc + 0))
    rw [Int.add_zero]
  | succ n ih =>
    intro d fu acc hd hfu
    obtain ⟨fu, rfl⟩ : ∃ k, fu = k + 1 := ⟨fu - 1, by omega⟩
    have nx : ∀ acc : Int, f_M_sumWalls_4 h fu 200 (iI 0) (iI acc) (iI ((d : Int) + 1)) = some (iI (acc + sm (fun d => freZ z d) n (d + 1))) := fun acc => ih (d + 1) fu acc (by omega) (by omega)
    show _ = some (iI (acc + ((freZ z d) + sm (fun d => freZ z d) n (d + 1))))
    rw [f_M_sumWalls_4, fA1, ib_184, if_pos rfl, cl_184, R.c184, tLe (by omega) (by omega) (by omega) (by omega), if_neg (by omega)]
    rw [if_pos lI0.symm, m_freeAt R F (by omega), Option.bind_some, f_M_sumWalls_40, iI_add, lI1, iI_add, nx, Int.add_assoc]
theorem m_sumP1 (R : RepM h 201 z) (F : WF z) : ∀ (n d fu : Nat) (acc : Int), (d : Int) + n = z 184 → n < fu → f_M_sumWalls_4 h fu 200 (iI 1) (iI acc) (iI d) = some (iI (acc + sm (fun d => plgZ z d) n d)) := by
  obtain ⟨⟨w1, w2⟩, ⟨n1, n2⟩, -⟩ := id F
  intro n
  induction n with
  | zero =>
    intro d fu acc hd hfu
    obtain ⟨fu, rfl⟩ : ∃ k, fu = k + 1 := ⟨fu - 1, by omega⟩
    rw [f_M_sumWalls_4, fA1, ib_184, if_pos rfl, cl_184, R.c184, tLe (by omega) (by omega) (by omega) (by omega), if_pos (by omega)]
    show some (iI (acc)) = some (iI (acc + 0))
    rw [Int.add_zero]
  | succ n ih =>
    intro d fu acc hd hfu
    obtain ⟨fu, rfl⟩ : ∃ k, fu = k + 1 := ⟨fu - 1, by omega⟩
    have nx : ∀ acc : Int, f_M_sumWalls_4 h fu 200 (iI 1) (iI acc) (iI ((d : Int) + 1)) = some (iI (acc + sm (fun d => plgZ z d) n (d + 1))) := fun acc => ih (d + 1) fu acc (by omega) (by omega)
    show _ = some (iI (acc + ((plgZ z d) + sm (fun d => plgZ z d) n (d + 1))))
    rw [f_M_sumWalls_4, fA1, ib_184, if_pos rfl, cl_184, R.c184, tLe (by omega) (by omega) (by omega) (by omega), if_neg (by omega)]
    rw [if_neg (by decide), m_plugsAt R F (by omega), Option.bind_some, f_M_sumWalls_40, lI1, iI_add, iI_add, nx, Int.add_assoc]
theorem m_sumH1 (R : RepM h 201 z) (RP : RepMw h (shareZ z)) (F : WF z) : ∀ (n d fu : Nat) (acc : Int), (d : Int) + n = z 185 → n < fu → f_M_sumDealers_12 fu 200 (iI 0) (iI acc) (iI d) h = some (iI (acc + sm (fun d => (shareZ z).2.1 d) n d), h) := by
  obtain ⟨⟨w1, w2⟩, ⟨n1, n2⟩, -⟩ := id F
  intro n
  induction n with
  | zero =>
    intro d fu acc hd hfu
    obtain ⟨fu, rfl⟩ : ∃ k, fu = k + 1 := ⟨fu - 1, by omega⟩
    rw [f_M_sumDealers_12, fA1, ib_185, if_pos rfl, cl_185, R.c185, tLe (by omega) (by omega) (by omega) (by omega), if_pos (by omega)]
    show some (iI (acc), h) = some (iI (acc + 0), h)
    rw [Int.add_zero]
  | succ n ih =>
    intro d fu acc hd hfu
    obtain ⟨fu, rfl⟩ : ∃ k, fu = k + 1 := ⟨fu - 1, by omega⟩
    have nx : ∀ acc : Int, f_M_sumDealers_12 fu 200 (iI 0) (iI acc) (iI ((d : Int) + 1)) h = some (iI (acc + sm (fun d => (shareZ z).2.1 d) n (d + 1)), h) := fun acc => ih (d + 1) fu acc (by omega) (by omega)
    show _ = some (iI (acc + (((shareZ z).2.1 d) + sm (fun d => (shareZ z).2.1 d) n (d + 1))), h)
    rw [f_M_sumDealers_12, fA1, ib_185, if_pos rfl, cl_185, R.c185, tLe (by omega) (by omega) (by omega) (by omega), if_neg (by omega)]
    rw [if_pos lI0.symm, e2_ (d := d) (by omega), if_pos rfl, e1_ (d := d) (by omega), fA9, RP.2.1 d (by omega), f_M_sumDealers_64, iI_add, lI1, iI_add, nx, Int.add_assoc]
theorem m_sumL1 (R : RepM h 201 z) (RP : RepMw h (shareZ z)) (F : WF z) : ∀ (n d fu : Nat) (acc : Int), (d : Int) + n = z 185 → n < fu → f_M_sumDealers_12 fu 200 (iI 1) (iI acc) (iI d) h = some (iI (acc + sm (fun d => lackZ z d) n d), h) := by
  obtain ⟨⟨w1, w2⟩, ⟨n1, n2⟩, -⟩ := id F
  intro n
  induction n with
  | zero =>
    intro d fu acc hd hfu
    obtain ⟨fu, rfl⟩ : ∃ k, fu = k + 1 := ⟨fu - 1, by omega⟩
    rw [f_M_sumDealers_12, fA1, ib_185, if_pos rfl, cl_185, R.c185, tLe (by omega) (by omega) (by omega) (by omega), if_pos (by omega)]
    show some (iI (acc), h) = some (iI (acc + 0), h)
    rw [Int.add_zero]
  | succ n ih =>
    intro d fu acc hd hfu
    obtain ⟨fu, rfl⟩ : ∃ k, fu = k + 1 := ⟨fu - 1, by omega⟩
    have nx : ∀ acc : Int, f_M_sumDealers_12 fu 200 (iI 1) (iI acc) (iI ((d : Int) + 1)) h = some (iI (acc + sm (fun d => lackZ z d) n (d + 1)), h) := fun acc => ih (d + 1) fu acc (by omega) (by omega)
    show _ = some (iI (acc + ((lackZ z d) + sm (fun d => lackZ z d) n (d + 1))), h)
    rw [f_M_sumDealers_12, fA1, ib_185, if_pos rfl, cl_185, R.c185, tLe (by omega) (by omega) (by omega) (by omega), if_neg (by omega)]
    rw [if_neg (by decide), if_pos lI1.symm, m_lacks R RP F (by omega) (by omega), Option.bind_some, f_M_sumDealers_64, iI_add, lI1, iI_add, nx, Int.add_assoc]
theorem m_sumR1 (R : RepM h 201 z) (RP : RepMw h (shareZ z)) (F : WF z) : ∀ (n d fu : Nat) (acc : Int), (d : Int) + n = z 185 → n < fu → f_M_sumDealers_12 fu 200 (iI 2) (iI acc) (iI d) h = some (iI (acc + sm (fun d => rivZ z d) n d), h) := by
  obtain ⟨⟨w1, w2⟩, ⟨n1, n2⟩, -⟩ := id F
  intro n
  induction n with
  | zero =>
    intro d fu acc hd hfu
    obtain ⟨fu, rfl⟩ : ∃ k, fu = k + 1 := ⟨fu - 1, by omega⟩
    rw [f_M_sumDealers_12, fA1, ib_185, if_pos rfl, cl_185, R.c185, tLe (by omega) (by omega) (by omega) (by omega), if_pos (by omega)]
    show some (iI (acc), h) = some (iI (acc + 0), h)
    rw [Int.add_zero]
  | succ n ih =>
    intro d fu acc hd hfu
    obtain ⟨fu, rfl⟩ : ∃ k, fu = k + 1 := ⟨fu - 1, by omega⟩
    have nx : ∀ acc : Int, f_M_sumDealers_12 fu 200 (iI 2) (iI acc) (iI ((d : Int) + 1)) h = some (iI (acc + sm (fun d => rivZ z d) n (d + 1)), h) := fun acc => ih (d + 1) fu acc (by omega) (by omega)
    show _ = some (iI (acc + ((rivZ z d) + sm (fun d => rivZ z d) n (d + 1))), h)
    rw [f_M_sumDealers_12, fA1, ib_185, if_pos rfl, cl_185, R.c185, tLe (by omega) (by omega) (by omega) (by omega), if_neg (by omega)]
    rw [if_neg (by decide), if_neg (by decide), lI1, m_rivals R F (by omega) (by omega), Option.bind_some, f_M_sumDealers_64, iI_add, lI1, iI_add, nx, Int.add_assoc]
theorem m_stw1 (R : RepM h 201 z) (F : WF z) {x : Int} (hx : 0 ≤ x ∧ x < 4) : ∀ (n d fu : Nat) (acc : Int), (d : Int) + n = z 185 → n < fu → f_M_wallOf_96 fu 200 (iI x) (iI acc) (iI d) h = some (iI (acc + sm (fun d => if z (127 + 6 * d) = x then 1 else 0) n d), h) := by
  obtain ⟨⟨w1, w2⟩, ⟨n1, n2⟩, -⟩ := id F
  intro n
  induction n with
  | zero =>
    intro d fu acc hd hfu
    obtain ⟨fu, rfl⟩ : ∃ k, fu = k + 1 := ⟨fu - 1, by omega⟩
    rw [f_M_wallOf_96, fA1, ib_185, if_pos rfl, cl_185, R.c185, tLe (by omega) (by omega) (by omega) (by omega), if_pos (by omega)]
    show some (iI (acc), h) = some (iI (acc + 0), h)
    rw [Int.add_zero]
  | succ n ih =>
    intro d fu acc hd hfu
    obtain ⟨fu, rfl⟩ : ∃ k, fu = k + 1 := ⟨fu - 1, by omega⟩
    have nx : ∀ acc : Int, f_M_wallOf_96 fu 200 (iI x) (iI acc) (iI ((d : Int) + 1)) h = some (iI (acc + sm (fun d => if z (127 + 6 * d) = x then 1 else 0) n (d + 1)), h) := fun acc => ih (d + 1) fu acc (by omega) (by omega)
    show _ = some (iI (acc + ((if z (127 + 6 * d) = x then 1 else 0) + sm (fun d => if z (127 + 6 * d) = x then 1 else 0) n (d + 1))), h)
    rw [f_M_wallOf_96, fA1, ib_185, if_pos rfl, cl_185, R.c185, tLe (by omega) (by omega) (by omega) (by omega), if_neg (by omega)]
    have hW := F.wall (d := d) (by omega) (by omega)
    rw [m_spot, Option.bind_some, lI3, iI_add, ib_d3 (d := d) (by omega), if_pos rfl, R.d3 (d := d) (by omega), tEq (by omega) (by omega) (by omega) (by omega)]
    by_cases c : z (127 + 6 * d) = x
    · rw [if_pos c, if_pos c, f_M_wallOf_131, lI1, iI_add, iI_add, nx, Int.add_assoc]
    · rw [if_neg c, if_neg c, f_M_wallOf_131, lI0, lI1, iI_add, iI_add, nx, Int.add_assoc]
theorem m_tkn1 (RP : RepMw h (shareZ z)) {w : Nat} (hw : w < 4) : ∀ (n d fu : Nat) (acc : Int), d + n = 30 → n < fu → f_M_wallOf_153 fu 200 (iI w) (iI acc) (iI d) h = some (iI (acc + sm (fun d => (shareZ z).1 (30 * w + d)) n d), h) := by
  intro n
  induction n with
  | zero =>
    intro d fu acc hd hfu
    obtain ⟨fu, rfl⟩ : ∃ k, fu = k + 1 := ⟨fu - 1, by omega⟩
    rw [f_M_wallOf_153, lI30, tLe (by omega) (by omega) (by omega) (by omega), if_pos (by omega)]
    show some (iI acc, h) = some (iI (acc + 0), h)
    rw [Int.add_zero]
  | succ n ih =>
    intro d fu acc hd hfu
    obtain ⟨fu, rfl⟩ : ∃ k, fu = k + 1 := ⟨fu - 1, by omega⟩
    have e1 : (iI (30 * (w : Int) + d)).toNatClampNeg = 30 * w + d := by rw [iI_cl (by omega) (by omega)]; omega
    show _ = some (iI (acc + ((shareZ z).1 (30 * w + d) + sm (fun d => (shareZ z).1 (30 * w + d)) n (d + 1))), h)
    rw [f_M_wallOf_153, lI30, tLe (by omega) (by omega) (by omega) (by omega), if_neg (by omega), iI_mul, iI_add, iI_ib (by omega) (by omega) (by omega), if_pos rfl, e1, fA8, RP.1 _ (by omega), iI_add, lI1, iI_add, show (d : Int) + 1 = ((d + 1 : Nat) : Int) by omega, ih (d + 1) fu _ (by omega) (by omega), Int.add_assoc]
theorem m_sumW {x : Int} (R : RepM h 201 z) (F : WF z) (hx : x = 0 ∨ x = 1) : f_M_sumWalls h 200 (iI x) = some (iI (if x = 0 then fmtZ z else pltZ z)) := by
  obtain ⟨⟨w1, w2⟩, ⟨n1, n2⟩, -⟩ := id F
  unfold f_M_sumWalls
  rcases hx with rfl | rfl
  · have := m_sumF1 R F (z 184).toNat 0 4096 0 (by omega) (by omega)
    rw [Int.zero_add] at this
    rw [lI0, if_pos rfl]
    exact this
  · have := m_sumP1 R F (z 184).toNat 0 4096 0 (by omega) (by omega)
    rw [Int.zero_add] at this
    rw [lI0, if_neg (by decide)]
    exact this
noncomputable def sdZ (z : Nat → Int) (x : Int) : Int := if x = 0 then hdtZ z else if x = 1 then lktZ z else rvtZ z
theorem m_sumD {x : Int} (R : RepM h 201 z) (F : WF z) (hx : x = 0 ∨ x = 1 ∨ x = 2) : ∃ h' : HP, f_M_sumDealers h 200 (iI x) = some (iI (sdZ z x), h') ∧ ∀ i, i ≠ 207 → i ≠ 208 → i ≠ 209 → h' i = h i := by
  obtain ⟨⟨w1, w2⟩, ⟨n1, n2⟩, -⟩ := id F
  obtain ⟨h1, g1, g2, g3⟩ := m_share (Or.inl rfl) F h R
  have R1 : RepM h1 201 z := R.fr (g3 _ (by decide) (by decide) (by decide))
  refine ⟨h1, ?_, g3⟩
  unfold f_M_sumDealers sdZ
  rw [fA1, g1, Option.bind_some]
  rcases hx with rfl | rfl | rfl
  · have := m_sumH1 R1 g2 F (z 185).toNat 0 4096 0 (by omega) (by omega)
    rw [Int.zero_add] at this
    rw [lI0, if_pos rfl]
    exact this
  · have := m_sumL1 R1 g2 F (z 185).toNat 0 4096 0 (by omega) (by omega)
    rw [Int.zero_add] at this
    rw [lI0, if_neg (by decide), if_pos rfl]
    exact this
  · have := m_sumR1 R1 g2 F (z 185).toNat 0 4096 0 (by omega) (by omega)
    rw [Int.zero_add] at this
    rw [lI0, if_neg (by decide), if_neg (by decide)]
    exact this
theorem m_rents {a : Nat} (A : MS a) (R : RepM h a z) (F : WF z) : ∃ h' : HP, f_M_rents h 200 a = some (iI (rtsZ z), h') ∧ ∀ i, i ≠ 207 → i ≠ 208 → i ≠ 209 → h' i = h i := by
  obtain ⟨⟨w1, w2⟩, ⟨n1, n2⟩, -⟩ := id F
  have ha : a ≠ 207 ∧ a ≠ 208 ∧ a ≠ 209 := by rcases A with rfl | rfl | rfl <;> decide
  obtain ⟨h1, g1, g2, g3⟩ := m_share A F h R
  have R1 : RepM h1 a z := R.fr (g3 _ ha.1 ha.2.1 ha.2.2)
  refine ⟨h1, ?_, g3⟩
  have := m_rents1 R1 F g2 (z 185).toNat 0 4096 0 (by omega) (by omega)
  rw [Int.zero_add] at this
  unfold f_M_rents
  rw [g1, Option.bind_some, lI0]
  exact this
end ASK3
