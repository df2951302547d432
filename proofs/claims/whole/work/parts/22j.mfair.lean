/-! the reference's questions about pitches, its sums and rents -/
section MFAIR
variable {h : HP} {a : Nat} {z : Nat → Int}
theorem m_at1 (R : RepM h a z) (F : WF z) {w m : Int} (hw : -1 ≤ w ∧ w < 4) (hm : -1 ≤ m ∧ m < 100) : ∀ (n d fu : Nat), (d : Int) + n = z 185 → n < fu → f_M_standsAt_2 h fu a (iI w) (iI m) (iI d) = some (iI (atF z w m n d)) := by
  obtain ⟨-, ⟨n1, n2⟩, -⟩ := id F
  intro n
  induction n with
  | zero =>
    intro d fu hd hfu
    obtain ⟨fu, rfl⟩ : ∃ k, fu = k + 1 := ⟨fu - 1, by omega⟩
    rw [f_M_standsAt_2, ib_185, if_pos rfl, cl_185, R.c185, tLe (by omega) (by omega) (by omega) (by omega), if_pos (by omega), lI1, iI_neg]
    rfl
  | succ n ih =>
    intro d fu hd hfu
    obtain ⟨fu, rfl⟩ : ∃ k, fu = k + 1 := ⟨fu - 1, by omega⟩
    have hd10 : d < 10 := by omega
    have h2 : (d : Int) < z 185 := by omega
    have hW := F.wall hd10 h2
    have hD := F.2.2.2.2.2.1 d hd10
    have nx : f_M_standsAt_56 h (f_M_standsAt_2 h fu) a (iI w) (iI m) (iI d) = some (iI (atF z w m n (d + 1))) := by
      unfold f_M_standsAt_56
      rw [lI1, iI_add]
      exact ih (d + 1) fu (by omega) (by omega)
    rw [f_M_standsAt_2, nx, ib_185, if_pos rfl, cl_185, R.c185, tLe (by omega) (by omega) (by omega) (by omega), if_neg (by omega), m_spot, Option.bind_some, lI3, lI4, lI1, iI_add, iI_add, iI_add, ib_d3 hd10, ib_d4 hd10, ib_d1 hd10, if_pos rfl, if_pos rfl, if_pos rfl, if_pos rfl, R.d3 hd10, R.d4 hd10, R.d1 hd10, iI_add, tEq (by omega) (by omega) (by omega) (by omega), tLt (by omega) (by omega) (by omega) (by omega), tLe (by omega) (by omega) (by omega) (by omega), atF]
    by_cases c3 : z (127 + 6 * d) = w
    · rw [if_pos c3]
      by_cases c4 : m < z (128 + 6 * d)
      · have n5 : ¬ (z (127 + 6 * d) = w ∧ z (128 + 6 * d) ≤ m ∧ m < z (128 + 6 * d) + z (125 + 6 * d)) := fun q => by have := q.2.1; omega
        rw [if_pos c4, if_neg n5]
      · rw [if_neg c4]
        by_cases c5 : z (128 + 6 * d) + z (125 + 6 * d) ≤ m
        · have n5 : ¬ (z (127 + 6 * d) = w ∧ z (128 + 6 * d) ≤ m ∧ m < z (128 + 6 * d) + z (125 + 6 * d)) := fun q => by have := q.2.2; omega
          rw [if_pos c5, if_neg n5]
        · have n5 : z (127 + 6 * d) = w ∧ z (128 + 6 * d) ≤ m ∧ m < z (128 + 6 * d) + z (125 + 6 * d) := ⟨c3, by omega, by omega⟩
          rw [if_neg c5, if_pos n5]
    · have n5 : ¬ (z (127 + 6 * d) = w ∧ z (128 + 6 * d) ≤ m ∧ m < z (128 + 6 * d) + z (125 + 6 * d)) := fun q => c3 q.1
      rw [if_neg c3, if_neg n5]
theorem m_at (R : RepM h a z) (F : WF z) {w m : Int} (hw : -1 ≤ w ∧ w < 4) (hm : -1 ≤ m ∧ m < 100) : f_M_standsAt h a (iI w) (iI m) = some (iI (atZ z w m)) := by
  obtain ⟨-, ⟨n1, n2⟩, -⟩ := id F
  unfold f_M_standsAt atZ
  rw [lI0]
  exact m_at1 R F hw hm (z 185).toNat 0 4096 (by omega) (by omega)
theorem m_sizeI (R : RepM h a z) {w : Int} (h1 : 0 ≤ w) (h2 : w < 4) : f_M_size h a (iI w) = some (iI (z (31 * w.toNat))) := by
  have e : iI w = iI ((w.toNat : Nat) : Int) := by congr 1; omega
  rw [e, m_size R (by omega)]
theorem m_ends (R : RepM h a z) (F : WF z) {d : Nat} (hd : d < 10) (h2 : (d : Int) < z 185) : f_M_ends h a (iI d) = some (iI (endZ z d)) := by
  have hW := F.wall hd h2
  have hD := F.2.2.2.2.2.1 d hd
  have hS := F.2.2.2.2.2.2.1 d hd h2
  unfold f_M_ends endZ
  rw [m_spot, Option.bind_some, m_stands R F hd h2, Option.bind_some]
  by_cases c : z (127 + 6 * d) = -1
  · rw [if_pos c, if_pos c, if_pos rfl, lI0]
  · have hL := F.2.2.2.1 (z (127 + 6 * d)).toNat (by omega)
    rw [if_neg c, if_neg c, if_neg (by decide), lI4, lI0, lI1, iI_add, ib_d4 hd, if_pos rfl, R.d4 hd, tEq (by omega) (by omega) (by omega) (by omega)]
    have e28 : ∀ s : Int, f_M_ends_28 h a (iI (124 + 6 * (d : Int))) (iI s) = some (iI (s + (if z (128 + 6 * d) + z (125 + 6 * d) = z (31 * (z (127 + 6 * d)).toNat) then 1 else 0))) := by
      intro s
      unfold f_M_ends_28
      rw [lI4, lI1, lI3, lI0, iI_add, iI_add, iI_add, iI_add, iI_add, ib_d4 hd, ib_d1 hd, ib_d3 hd, if_pos rfl, if_pos rfl, if_pos rfl, R.d4 hd, R.d1 hd, R.d3 hd, m_sizeI R (by omega) (by omega), Option.bind_some, iI_add, tEq (by omega) (by omega) (by omega) (by omega)]
      by_cases c2 : z (128 + 6 * d) + z (125 + 6 * d) = z (31 * (z (127 + 6 * d)).toNat)
      · rw [if_pos c2, if_pos c2]
      · rw [if_neg c2, if_neg c2]
    rw [e28, e28]
    by_cases c3 : z (128 + 6 * d) = 0
    · rw [if_pos c3, if_pos c3]
    · rw [if_neg c3, if_neg c3]
theorem m_beside (R : RepM h a z) (F : WF z) {d e : Nat} (hd : d < 10) (h2 : (d : Int) < z 185) (he : e < 10) (h3 : (e : Int) < z 185) : f_M_areBeside h a (iI d) (iI e) = some (if nbr z d e then 1 else 0) := by
  have hW := F.wall hd h2
  have hD := F.2.2.2.2.2.1 d hd
  have hW' := F.wall he h3
  have hD' := F.2.2.2.2.2.1 e he
  unfold f_M_areBeside f_M_areBeside_37 f_M_areBeside_38 f_M_areBeside_86
  rw [m_spot, m_spot, Option.bind_some, Option.bind_some, m_stands R F hd h2, Option.bind_some, lI3, lI4, if_pos rfl, if_neg (by decide : ¬ (1 : Int32) = 0), lI1, iI_add, iI_add, iI_add, iI_add, iI_add, iI_add, ib_d3 hd, ib_d3 he, ib_d4 hd, ib_d4 he, ib_d1 hd, ib_d1 he, if_pos rfl, if_pos rfl, if_pos rfl, if_pos rfl, if_pos rfl, if_pos rfl, if_pos rfl, if_pos rfl, R.d3 hd, R.d3 he, R.d4 hd, R.d4 he, R.d1 hd, R.d1 he, iI_add, iI_add, tEq (by omega) (by omega) (by omega) (by omega), tEq (by omega) (by omega) (by omega) (by omega), tEq (by omega) (by omega) (by omega) (by omega), ← lI1]
  by_cases c1 : z (127 + 6 * d) = -1
  · rw [if_pos c1, if_pos rfl, if_neg (fun q => q.1 c1)]
  · rw [if_neg c1, if_neg (by decide)]
    by_cases c3 : z (127 + 6 * d) = z (127 + 6 * e)
    · rw [if_pos c3]
      by_cases c4 : z (128 + 6 * d) + z (125 + 6 * d) = z (128 + 6 * e)
      · rw [if_pos c4, if_pos ⟨c1, c3, Or.inl c4⟩]
      · rw [if_neg c4]
        by_cases c5 : z (128 + 6 * e) + z (125 + 6 * e) = z (128 + 6 * d)
        · rw [if_pos c5, if_pos ⟨c1, c3, Or.inr c5⟩]
        · rw [if_neg c5, if_neg (fun q => q.2.2.elim c4 c5)]
    · rw [if_neg c3, if_neg (fun q => c3 q.2.1)]
theorem nbr_irr (F : WF z) {d : Nat} (hd : d < 10) (h2 : (d : Int) < z 185) : ¬ nbr z d d := fun q => by
  have hD := (F.2.2.2.2.2.1 d hd).2.1 h2
  rcases q.2.2 with h | h <;> omega
theorem m_lacks (R : RepM h a z) (RP : RepMw h (shareZ z)) (F : WF z) {d : Nat} (hd : d < 10) (h2 : (d : Int) < z 185) : f_M_lacks h 200 a (iI d) = some (iI (lackZ z d)) := by
  have f9 : fld 200 9 = 208 := rfl
  unfold f_M_lacks lackZ
  rw [m_stands R F hd h2, Option.bind_some, m_spot, Option.bind_some, lI2, iI_add, ib_d2 hd, if_pos rfl, e2_ hd, if_pos rfl, R.d2 hd, e1_ hd, f9, RP.2.1 d hd, iI_sub]
  by_cases c : z (127 + 6 * d) = -1
  · rw [if_pos c, if_pos c, if_pos rfl, lI0]
  · rw [if_neg c, if_neg c, if_neg (by decide)]
theorem m_nbr1 (R : RepM h a z) (F : WF z) {x : Nat} (hx : x < 10) (h3 : (x : Int) < z 185) : ∀ (n d fu : Nat) (acc : Int), (d : Int) + n = z 185 → n < fu → f_M_neighbours_5 h fu a (iI x) (iI 0) (iI acc) (iI d) = some (iI (acc + sm (fun d => if nbr z x d then 1 else 0) n d)) := by
  obtain ⟨⟨w1, w2⟩, ⟨n1, n2⟩, -⟩ := id F
  intro n
  induction n with
  | zero =>
    intro d fu acc hd hfu
    obtain ⟨fu, rfl⟩ : ∃ k, fu = k + 1 := ⟨fu - 1, by omega⟩
    rw [f_M_neighbours_5, ib_185, if_pos rfl, cl_185, R.c185, tLe (by omega) (by omega) (by omega) (by omega), if_pos (by omega)]
    show some (iI (acc)) = some (iI (acc + 0))
    rw [Int.add_zero]
  | succ n ih =>
    intro d fu acc hd hfu
    obtain ⟨fu, rfl⟩ : ∃ k, fu = k + 1 := ⟨fu - 1, by omega⟩
    have hd10 : d < 10 := by omega
    have h2 : (d : Int) < z 185 := by omega
    have nx : ∀ acc : Int, f_M_neighbours_5 h fu a (iI x) (iI 0) (iI acc) (iI ((d : Int) + 1)) = some (iI (acc + sm (fun d => if nbr z x d then 1 else 0) n (d + 1))) := fun acc => ih (d + 1) fu acc (by omega) (by omega)
    show _ = some (iI (acc + ((if nbr z x d then 1 else 0) + sm (fun d => if nbr z x d then 1 else 0) n (d + 1))))
    rw [f_M_neighbours_5, ib_185, if_pos rfl, cl_185, R.c185, tLe (by omega) (by omega) (by omega) (by omega), if_neg (by omega)]
    have k72 : f_M_neighbours_72 h (f_M_neighbours_5 h fu) a (iI x) (iI 0) (iI d) (iI acc) = some (iI (acc + (0 + sm (fun d => if nbr z x d then 1 else 0) n (d + 1)))) := by
      unfold f_M_neighbours_72 f_M_neighbours_73
      rw [lI0, lI1, iI_add, iI_add, nx, Int.add_zero, Int.zero_add]
    have k44 : ∀ s : Bool, f_M_neighbours_44 h (f_M_neighbours_5 h fu) a (iI x) (iI 0) (iI acc) (iI d) (if s = true then 1 else 0) = some (iI (acc + ((if nbr z x d ∧ s = true then 1 else 0) + sm (fun d => if nbr z x d then 1 else 0) n (d + 1)))) := by
      intro s
      unfold f_M_neighbours_44
      rw [k72, m_beside R F hx h3 hd10 h2, Option.bind_some, tEq (by omega) (by omega) (by omega) (by omega)]
      by_cases q1 : (d : Int) = (x : Int)
      · have e : d = x := by omega
        have nn : ¬ (nbr z x d ∧ s = true) := fun q => by rw [e] at q; exact nbr_irr F hx h3 q.1
        rw [if_pos q1, if_neg nn]
      · rw [if_neg q1]
        cases s with
        | false =>
          have nn : ¬ (nbr z x d ∧ false = true) := fun q => by cases q.2
          rw [if_neg (by decide : ¬ (false = true)), if_pos rfl, if_neg nn]
        | true =>
          rw [if_pos rfl, if_neg (by decide : ¬ (1 : Int32) = 0)]
          by_cases c : nbr z x d
          · have nn : nbr z x d ∧ true = true := ⟨c, rfl⟩
            rw [if_pos c, if_neg (by decide), if_pos nn]
            unfold f_M_neighbours_73
            rw [lI1, iI_add, iI_add, nx, Int.add_assoc]
          · have nn : ¬ (nbr z x d ∧ true = true) := fun q => c q.1
            rw [if_neg c, if_pos rfl, if_neg nn]
    have t1 : f_M_neighbours_44 h (f_M_neighbours_5 h fu) a (iI x) (iI 0) (iI acc) (iI d) 1 = _ := k44 true
    have t0 : f_M_neighbours_44 h (f_M_neighbours_5 h fu) a (iI x) (iI 0) (iI acc) (iI d) 0 = _ := k44 false
    unfold f_M_neighbours_39
    rw [t1]
    rw [if_pos lI0.symm]
    by_cases c : nbr z x d
    · have nn : nbr z x d ∧ true = true := ⟨c, rfl⟩
      rw [if_pos nn, if_pos c]
    · have nn : ¬ (nbr z x d ∧ true = true) := fun q => c q.1
      rw [if_neg nn, if_neg c]
theorem m_riv1 (R : RepM h a z) (F : WF z) {x : Nat} (hx : x < 10) (h3 : (x : Int) < z 185) : ∀ (n d fu : Nat) (acc : Int), (d : Int) + n = z 185 → n < fu → f_M_neighbours_5 h fu a (iI x) (iI 1) (iI acc) (iI d) = some (iI (acc + sm (fun d => if nbr z x d ∧ z (124 + 6 * x) = z (124 + 6 * d) then 1 else 0) n d)) := by
  obtain ⟨⟨w1, w2⟩, ⟨n1, n2⟩, -⟩ := id F
  intro n
  induction n with
  | zero =>
    intro d fu acc hd hfu
    obtain ⟨fu, rfl⟩ : ∃ k, fu = k + 1 := ⟨fu - 1, by omega⟩
    rw [f_M_neighbours_5, ib_185, if_pos rfl, cl_185, R.c185, tLe (by omega) (by omega) (by omega) (by omega), if_pos (by omega)]
    show some (iI (acc)) = some (iI (acc + 0))
    rw [Int.add_zero]
  | succ n ih =>
    intro d fu acc hd hfu
    obtain ⟨fu, rfl⟩ : ∃ k, fu = k + 1 := ⟨fu - 1, by omega⟩
    have hd10 : d < 10 := by omega
    have h2 : (d : Int) < z 185 := by omega
    have nx : ∀ acc : Int, f_M_neighbours_5 h fu a (iI x) (iI 1) (iI acc) (iI ((d : Int) + 1)) = some (iI (acc + sm (fun d => if nbr z x d ∧ z (124 + 6 * x) = z (124 + 6 * d) then 1 else 0) n (d + 1))) := fun acc => ih (d + 1) fu acc (by omega) (by omega)
    show _ = some (iI (acc + ((if nbr z x d ∧ z (124 + 6 * x) = z (124 + 6 * d) then 1 else 0) + sm (fun d => if nbr z x d ∧ z (124 + 6 * x) = z (124 + 6 * d) then 1 else 0) n (d + 1))))
    rw [f_M_neighbours_5, ib_185, if_pos rfl, cl_185, R.c185, tLe (by omega) (by omega) (by omega) (by omega), if_neg (by omega)]
    have k72 : f_M_neighbours_72 h (f_M_neighbours_5 h fu) a (iI x) (iI 1) (iI d) (iI acc) = some (iI (acc + (0 + sm (fun d => if nbr z x d ∧ z (124 + 6 * x) = z (124 + 6 * d) then 1 else 0) n (d + 1)))) := by
      unfold f_M_neighbours_72 f_M_neighbours_73
      rw [lI0, lI1, iI_add, iI_add, nx, Int.add_zero, Int.zero_add]
    have k44 : ∀ s : Bool, f_M_neighbours_44 h (f_M_neighbours_5 h fu) a (iI x) (iI 1) (iI acc) (iI d) (if s = true then 1 else 0) = some (iI (acc + ((if nbr z x d ∧ s = true then 1 else 0) + sm (fun d => if nbr z x d ∧ z (124 + 6 * x) = z (124 + 6 * d) then 1 else 0) n (d + 1)))) := by
      intro s
      unfold f_M_neighbours_44
      rw [k72, m_beside R F hx h3 hd10 h2, Option.bind_some, tEq (by omega) (by omega) (by omega) (by omega)]
      by_cases q1 : (d : Int) = (x : Int)
      · have e : d = x := by omega
        have nn : ¬ (nbr z x d ∧ s = true) := fun q => by rw [e] at q; exact nbr_irr F hx h3 q.1
        rw [if_pos q1, if_neg nn]
      · rw [if_neg q1]
        cases s with
        | false =>
          have nn : ¬ (nbr z x d ∧ false = true) := fun q => by cases q.2
          rw [if_neg (by decide : ¬ (false = true)), if_pos rfl, if_neg nn]
        | true =>
          rw [if_pos rfl, if_neg (by decide : ¬ (1 : Int32) = 0)]
          by_cases c : nbr z x d
          · have nn : nbr z x d ∧ true = true := ⟨c, rfl⟩
            rw [if_pos c, if_neg (by decide), if_pos nn]
            unfold f_M_neighbours_73
            rw [lI1, iI_add, iI_add, nx, Int.add_assoc]
          · have nn : ¬ (nbr z x d ∧ true = true) := fun q => c q.1
            rw [if_neg c, if_pos rfl, if_neg nn]
    have t1 : f_M_neighbours_44 h (f_M_neighbours_5 h fu) a (iI x) (iI 1) (iI acc) (iI d) 1 = _ := k44 true
    have t0 : f_M_neighbours_44 h (f_M_neighbours_5 h fu) a (iI x) (iI 1) (iI acc) (iI d) 0 = _ := k44 false
    unfold f_M_neighbours_39
    rw [t1]
    have hDx := F.2.2.2.2.2.1 x hx
    have hDd := F.2.2.2.2.2.1 d hd10
    rw [t0, if_neg (by decide), m_spot, Option.bind_some, m_spot, Option.bind_some, lI0, iI_add, iI_add, ib_d0 hd10, ib_d0 hx, if_pos rfl, if_pos rfl, R.d0 hd10, R.d0 hx, tEq (by omega) (by omega) (by omega) (by omega)]
    by_cases c2 : z (124 + 6 * d) = z (124 + 6 * x)
    · rw [if_pos c2]
      by_cases c : nbr z x d
      · have nn : nbr z x d ∧ true = true := ⟨c, rfl⟩
        have n5 : nbr z x d ∧ z (124 + 6 * x) = z (124 + 6 * d) := ⟨c, c2.symm⟩
        rw [if_pos nn, if_pos n5]
      · have nn : ¬ (nbr z x d ∧ true = true) := fun q => c q.1
        have n5 : ¬ (nbr z x d ∧ z (124 + 6 * x) = z (124 + 6 * d)) := fun q => c q.1
        rw [if_neg nn, if_neg n5]
    · have nn : ¬ (nbr z x d ∧ false = true) := fun q => by cases q.2
      have n5 : ¬ (nbr z x d ∧ z (124 + 6 * x) = z (124 + 6 * d)) := fun q => c2 q.2.symm
      rw [if_neg c2, if_neg nn, if_neg n5]
theorem m_nbrs (R : RepM h a z) (F : WF z) {x : Nat} (hx : x < 10) (h3 : (x : Int) < z 185) : f_M_neighbours h a (iI x) (iI 0) = some (iI (nbrZ z x)) := by
  obtain ⟨-, ⟨n1, n2⟩, -⟩ := id F
  unfold f_M_neighbours nbrZ
  have := m_nbr1 R F hx h3 (z 185).toNat 0 4096 0 (by omega) (by omega)
  rw [Int.zero_add] at this
  rw [lI0]
  exact this
theorem m_rivals (R : RepM h a z) (F : WF z) {x : Nat} (hx : x < 10) (h3 : (x : Int) < z 185) : f_M_neighbours h a (iI x) (iI 1) = some (iI (rivZ z x)) := by
  obtain ⟨-, ⟨n1, n2⟩, -⟩ := id F
  unfold f_M_neighbours rivZ
  have := m_riv1 R F hx h3 (z 185).toNat 0 4096 0 (by omega) (by omega)
  rw [Int.zero_add] at this
  rw [lI0]
  exact this
theorem m_rent (R : RepM h a z) (RP : RepMw h (shareZ z)) (F : WF z) {d : Nat} (hd : d < 10) (h2 : (d : Int) < z 185) : f_M_rent h 200 a (iI d) = some (iI (rentZ z d)) := by
  have hB := base_b F hd
  have hL := lack_b F hd
  have hR := riv_b F d
  have f9 : fld 200 9 = 208 := rfl
  obtain ⟨s0, s1, s2, s3, s4, s5⟩ := set_b F
  have m1 := mulb s4.1 s4.2 hL.1 hL.2
  have e67 : ∀ x y : Int, 0 ≤ x - y → x - y ≤ 700 → f_M_rent_67 h 200 a (iI d) (iI x) (iI y) = some (iI (max (x - y - z 194 * lackZ z d) 0)) := by
    intro x y h1 h3
    unfold f_M_rent_67
    rw [ib_194, if_pos rfl, m_lacks R RP F hd h2, Option.bind_some, cl_194, R.c194, iI_mul, iI_sub, iI_sub, lI0, tLe (by omega) (by omega) (by omega) (by omega)]
    by_cases c : 0 ≤ x - y - z 194 * lackZ z d
    · rw [if_pos c, Int.max_eq_left c]
    · rw [if_neg c, Int.max_eq_right (by omega)]
  unfold f_M_rent rentZ
  rw [m_stands R F hd h2, Option.bind_some]
  by_cases c : z (127 + 6 * d) = -1
  · rw [if_pos c, if_pos c, if_pos rfl, lI0]
  · rw [if_neg c, if_neg c, if_neg (by decide), ib_190, ib_192, ib_193, if_pos rfl, m_spot, Option.bind_some, e2_ hd, lI1, iI_add, ib_d1 hd, if_pos rfl, if_pos rfl, m_ends R F hd h2, Option.bind_some, if_pos rfl, if_pos rfl, m_rivals R F hd h2, Option.bind_some, R.d1 hd, cl_190, cl_192, cl_193, R.c190, R.c192, R.c193, e1_ hd, f9, RP.2.1 d hd, iI_mul, iI_mul, iI_mul, iI_add, iI_add]
    have eb : z 190 * z (125 + 6 * d) + z 192 * endZ z d + z 193 * (shareZ z).2.1 d = baseZ z d := rfl
    rw [eb, lI0, lI4, tLe (by omega) (by omega) (by omega) (by omega), iI_div (by omega) (by omega) (by omega) (by omega)]
    by_cases c2 : rivZ z d ≤ 0
    · rw [if_pos c2, if_pos c2, e67 _ _ (by omega) (by omega), Int.sub_zero]
    · rw [if_neg c2, if_neg c2, e67 _ _ (by omega) (by omega)]
theorem m_standing1 (R : RepM h a z) (F : WF z) : ∀ (n d fu : Nat) (acc : Int), (d : Int) + n = z 185 → n < fu → f_M_standing_4 h fu a (iI acc) (iI d) = some (iI (acc + sm (fun d => if z (127 + 6 * d) = -1 then 0 else 1) n d)) := by
  obtain ⟨⟨w1, w2⟩, ⟨n1, n2⟩, -⟩ := id F
  intro n
  induction n with
  | zero =>
    intro d fu acc hd hfu
    obtain ⟨fu, rfl⟩ : ∃ k, fu = k + 1 := ⟨fu - 1, by omega⟩
    rw [f_M_standing_4, ib_185, if_pos rfl, cl_185, R.c185, tLe (by omega) (by omega) (by omega) (by omega), if_pos (by omega)]
    show some (iI (acc)) = some (iI (acc + 0))
    rw [Int.add_zero]
  | succ n ih =>
    intro d fu acc hd hfu
    obtain ⟨fu, rfl⟩ : ∃ k, fu = k + 1 := ⟨fu - 1, by omega⟩
    have hd10 : d < 10 := by omega
    have h2 : (d : Int) < z 185 := by omega
    have nx : ∀ acc : Int, f_M_standing_4 h fu a (iI acc) (iI ((d : Int) + 1)) = some (iI (acc + sm (fun d => if z (127 + 6 * d) = -1 then 0 else 1) n (d + 1))) := fun acc => ih (d + 1) fu acc (by omega) (by omega)
    show _ = some (iI (acc + ((if z (127 + 6 * d) = -1 then 0 else 1) + sm (fun d => if z (127 + 6 * d) = -1 then 0 else 1) n (d + 1))))
    rw [f_M_standing_4, ib_185, if_pos rfl, cl_185, R.c185, tLe (by omega) (by omega) (by omega) (by omega), if_neg (by omega)]
    rw [m_stands R F hd10 h2, Option.bind_some]
    unfold f_M_standing_27
    rw [lI0, lI1, iI_add, iI_add, iI_add, nx, nx, ← lI0, ← lI1]
    by_cases c1 : z (127 + 6 * d) = -1
    · rw [if_pos c1, if_pos rfl, if_pos c1, Int.add_assoc]
    · rw [if_neg c1, if_neg (by decide), if_neg c1, Int.add_assoc]
theorem m_metres1 (R : RepM h a z) (F : WF z) : ∀ (n d fu : Nat) (acc : Int), (d : Int) + n = z 184 → n < fu → f_M_metres_4 h fu a (iI acc) (iI d) = some (iI (acc + sm (fun d => z (31 * d)) n d)) := by
  obtain ⟨⟨w1, w2⟩, ⟨n1, n2⟩, -⟩ := id F
  intro n
  induction n with
  | zero =>
    intro d fu acc hd hfu
    obtain ⟨fu, rfl⟩ : ∃ k, fu = k + 1 := ⟨fu - 1, by omega⟩
    rw [f_M_metres_4, ib_184, if_pos rfl, cl_184, R.c184, tLe (by omega) (by omega) (by omega) (by omega), if_pos (by omega)]
    show some (iI (acc)) = some (iI (acc + 0))
    rw [Int.add_zero]
  | succ n ih =>
    intro d fu acc hd hfu
    obtain ⟨fu, rfl⟩ : ∃ k, fu = k + 1 := ⟨fu - 1, by omega⟩
    have hd10 : d < 4 := by omega
    have h2 : (d : Int) < z 184 := by omega
    have nx : ∀ acc : Int, f_M_metres_4 h fu a (iI acc) (iI ((d : Int) + 1)) = some (iI (acc + sm (fun d => z (31 * d)) n (d + 1))) := fun acc => ih (d + 1) fu acc (by omega) (by omega)
    show _ = some (iI (acc + ((z (31 * d)) + sm (fun d => z (31 * d)) n (d + 1))))
    rw [f_M_metres_4, ib_184, if_pos rfl, cl_184, R.c184, tLe (by omega) (by omega) (by omega) (by omega), if_neg (by omega)]
    rw [m_size R (by omega), Option.bind_some, iI_add, lI1, iI_add, nx, Int.add_assoc]
theorem m_less1 (R : RepM h a z) (F : WF z) {x : Int} (hx : 0 ≤ x ∧ x < 4) : ∀ (n d fu : Nat) (acc : Int), (d : Int) + n = z 185 → n < fu → f_M_lessFronts_8 h fu a (iI x) (iI acc) (iI d) = some (iI (acc - sm (fun d => if z (127 + 6 * d) = x then z (125 + 6 * d) else 0) n d)) := by
  obtain ⟨⟨w1, w2⟩, ⟨n1, n2⟩, -⟩ := id F
  intro n
  induction n with
  | zero =>
    intro d fu acc hd hfu
    obtain ⟨fu, rfl⟩ : ∃ k, fu = k + 1 := ⟨fu - 1, by omega⟩
    rw [f_M_lessFronts_8, ib_185, if_pos rfl, cl_185, R.c185, tLe (by omega) (by omega) (by omega) (by omega), if_pos (by omega)]
    show some (iI (acc)) = some (iI (acc - 0))
    rw [Int.sub_zero]
  | succ n ih =>
    intro d fu acc hd hfu
    obtain ⟨fu, rfl⟩ : ∃ k, fu = k + 1 := ⟨fu - 1, by omega⟩
    have hd10 : d < 10 := by omega
    have h2 : (d : Int) < z 185 := by omega
    have nx : ∀ acc : Int, f_M_lessFronts_8 h fu a (iI x) (iI acc) (iI ((d : Int) + 1)) = some (iI (acc - sm (fun d => if z (127 + 6 * d) = x then z (125 + 6 * d) else 0) n (d + 1))) := fun acc => ih (d + 1) fu acc (by omega) (by omega)
    show _ = some (iI (acc - ((if z (127 + 6 * d) = x then z (125 + 6 * d) else 0) + sm (fun d => if z (127 + 6 * d) = x then z (125 + 6 * d) else 0) n (d + 1))))
    rw [f_M_lessFronts_8, ib_185, if_pos rfl, cl_185, R.c185, tLe (by omega) (by omega) (by omega) (by omega), if_neg (by omega)]
    have hW := F.wall hd10 h2
    unfold f_M_lessFronts_42
    rw [m_spot, Option.bind_some, lI3, iI_add, ib_d3 hd10, if_pos rfl, R.d3 hd10, tEq (by omega) (by omega) (by omega) (by omega), Option.bind_some, lI1, iI_add, ib_d1 hd10, if_pos rfl, R.d1 hd10, lI0, iI_sub, iI_sub, iI_add, nx, nx]
    by_cases c1 : z (127 + 6 * d) = x
    · rw [if_pos c1, if_pos c1, Int.sub_sub]
    · rw [if_neg c1, if_neg c1, Int.sub_sub]
theorem m_rents1 (R : RepM h a z) (F : WF z) (RP : RepMw h (shareZ z)) : ∀ (n d fu : Nat) (acc : Int), (d : Int) + n = z 185 → n < fu → f_M_rents_9 fu 200 a (iI acc) (iI d) h = some (iI (acc + sm (fun d => rentZ z d) n d), h) := by
  obtain ⟨⟨w1, w2⟩, ⟨n1, n2⟩, -⟩ := id F
  intro n
  induction n with
  | zero =>
    intro d fu acc hd hfu
    obtain ⟨fu, rfl⟩ : ∃ k, fu = k + 1 := ⟨fu - 1, by omega⟩
    rw [f_M_rents_9, ib_185, if_pos rfl, cl_185, R.c185, tLe (by omega) (by omega) (by omega) (by omega), if_pos (by omega)]
    show some (iI (acc), h) = some (iI (acc + 0), h)
    rw [Int.add_zero]
  | succ n ih =>
    intro d fu acc hd hfu
    obtain ⟨fu, rfl⟩ : ∃ k, fu = k + 1 := ⟨fu - 1, by omega⟩
    have hd10 : d < 10 := by omega
    have h2 : (d : Int) < z 185 := by omega
    have nx : ∀ acc : Int, f_M_rents_9 fu 200 a (iI acc) (iI ((d : Int) + 1)) h = some (iI (acc + sm (fun d => rentZ z d) n (d + 1)), h) := fun acc => ih (d + 1) fu acc (by omega) (by omega)
    show _ = some (iI (acc + ((rentZ z d) + sm (fun d => rentZ z d) n (d + 1))), h)
    rw [f_M_rents_9, ib_185, if_pos rfl, cl_185, R.c185, tLe (by omega) (by omega) (by omega) (by omega), if_neg (by omega)]
    rw [m_rent R RP F hd10 h2, Option.bind_some, iI_add, lI1, iI_add, nx, Int.add_assoc]
end MFAIR
