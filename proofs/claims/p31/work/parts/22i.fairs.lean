/-! the fair: the class's sums and rents -/
theorem mulb {a b A B : Int} (h1 : 0 ≤ a) (h2 : a ≤ A) (h3 : 0 ≤ b) (h4 : b ≤ B) : 0 ≤ a * b ∧ a * b ≤ A * B := ⟨Int.mul_nonneg h1 h3, Int.mul_le_mul h2 h4 h3 (by omega)⟩
section FAIRS
variable {h : HP} {a b p : Nat} {z : Nat → Int}
theorem had_b (F : WF z) (d : Nat) : 0 ≤ (shareZ z).2.1 d ∧ (shareZ z).2.1 d ≤ 3 ∧ (d < 10 → (shareZ z).2.1 d ≤ z (126 + 6 * d)) := by
  obtain ⟨-, ⟨n1, n2⟩, -⟩ := id F
  exact (share_inv F (z 185).toNat (by omega)).2.2 d
theorem had_0 (F : WF z) {d : Nat} (h : z 185 ≤ (d : Int)) : (shareZ z).2.1 d = 0 := by
  obtain ⟨-, ⟨n1, n2⟩, -⟩ := id F
  exact (share_inv F (z 185).toNat (by omega)).2.1 d (by omega)
theorem tak_b (F : WF z) {i : Nat} (hi : i < 120) : 0 ≤ (shareZ z).1 i ∧ (shareZ z).1 i ≤ 30 := by
  obtain ⟨-, ⟨n1, n2⟩, -⟩ := id F
  have := (share_inv F (z 185).toNat (by omega)).1 i hi
  unfold shareZ
  omega
theorem riv_b (F : WF z) (d : Nat) : 0 ≤ rivZ z d ∧ rivZ z d ≤ 10 := by
  obtain ⟨-, ⟨n1, n2⟩, -⟩ := id F
  have := sm_b (G := fun e => if nbr z d e ∧ z (124 + 6 * d) = z (124 + 6 * e) then 1 else 0) (M := 1) (fun i _ => by
    by_cases c : nbr z d i ∧ z (124 + 6 * d) = z (124 + 6 * i)
    · show 0 ≤ (if nbr z d i ∧ z (124 + 6 * d) = z (124 + 6 * i) then (1 : Int) else 0) ∧ _
      rw [if_pos c]; decide
    · show 0 ≤ (if nbr z d i ∧ z (124 + 6 * d) = z (124 + 6 * i) then (1 : Int) else 0) ∧ _
      rw [if_neg c]; decide) (z 185).toNat 0 (by omega)
  unfold rivZ
  omega
theorem end_b (z : Nat → Int) (d : Nat) : 0 ≤ endZ z d ∧ endZ z d ≤ 2 := by
  unfold endZ
  split
  · omega
  · split <;> split <;> omega
theorem lack_b (F : WF z) {d : Nat} (hd : d < 10) : 0 ≤ lackZ z d ∧ lackZ z d ≤ 3 := by
  have hD := F.2.2.2.2.2.1 d hd
  have := had_b F d
  have := this.2.2 hd
  unfold lackZ
  split <;> omega
theorem set_b (F : WF z) : (0 ≤ z 190 ∧ z 190 ≤ 50) ∧ (0 ≤ z 191 ∧ z 191 ≤ 9) ∧ (0 ≤ z 192 ∧ z 192 ≤ 50) ∧ (0 ≤ z 193 ∧ z 193 ≤ 50) ∧ (0 ≤ z 194 ∧ z 194 ≤ 50) ∧ (0 ≤ z 195 ∧ z 195 ≤ 9) := by
  obtain ⟨-, -, -, -, -, -, -, -, hset, h1, h5⟩ := F
  have a0 : 0 ≤ z 190 ∧ z 190 ≤ 50 := hset 0 (by decide)
  have a1 : 0 ≤ z 191 ∧ z 191 ≤ 50 := hset 1 (by decide)
  have a2 : 0 ≤ z 192 ∧ z 192 ≤ 50 := hset 2 (by decide)
  have a3 : 0 ≤ z 193 ∧ z 193 ≤ 50 := hset 3 (by decide)
  have a4 : 0 ≤ z 194 ∧ z 194 ≤ 50 := hset 4 (by decide)
  have a5 : 0 ≤ z 195 ∧ z 195 ≤ 50 := hset 5 (by decide)
  exact ⟨a0, ⟨a1.1, h1⟩, a2, a3, a4, ⟨a5.1, h5⟩⟩
theorem base_b (F : WF z) {d : Nat} (hd : d < 10) : 0 ≤ baseZ z d ∧ baseZ z d ≤ 700 := by
  have hD := F.2.2.2.2.2.1 d hd
  have hH := had_b F d
  have hE := end_b z d
  obtain ⟨s0, s1, s2, s3, s4, s5⟩ := set_b F
  have m1 := mulb s0.1 s0.2 hD.2.2.1.1 hD.2.2.1.2
  have m2 := mulb s2.1 s2.2 hE.1 hE.2
  have m3 := mulb s3.1 s3.2 hH.1 hH.2.1
  unfold baseZ
  omega
theorem rent_b (F : WF z) {d : Nat} (hd : d < 10) : 0 ≤ rentZ z d ∧ rentZ z d ≤ 700 := by
  have hB := base_b F hd
  have hL := lack_b F hd
  obtain ⟨s0, s1, s2, s3, s4, s5⟩ := set_b F
  have m1 := mulb s4.1 s4.2 hL.1 hL.2
  unfold rentZ
  split
  · omega
  · split <;> omega
theorem w_had (P : PS p) (RP : RepPw h p (shareZ z)) {d : Nat} (hd : d < 10) : f_W_plugsHad h p (iI d) = some (iI ((shareZ z).2.1 d)) := by
  unfold f_W_plugsHad f_F_inRange
  rw [lI0, lI9, tLt (by omega) (by omega) (by omega) (by omega), if_neg (by omega), tLt (by omega) (by omega) (by omega) (by omega), if_neg (by omega), Option.bind_some, if_neg (by decide), e2_ hd, if_pos rfl, e1_ hd, P.f2, RP.2.1 d hd]
theorem w_tak (P : PS p) (RP : RepPw h p (shareZ z)) {w m : Nat} (hw : w < 4) (hm : m < 30) : f_W_takenFrom h p (iI w) (iI m) = some (iI ((shareZ z).1 (30 * w + m))) := by
  unfold f_W_takenFrom f_F_inRange
  have e3 : (iI ((w : Int) * 30 + m)).toNatClampNeg = 30 * w + m := by
    rw [iI_cl (by omega) (by omega)]
    omega
  have e4 : ib (iI ((w : Int) * 30 + m)) 120 = true := iI_ib (by omega) (by omega) (by omega)
  rw [lI0, lI3, lI29, tLt (by omega) (by omega) (by omega) (by omega), if_neg (by omega), tLt (by omega) (by omega) (by omega) (by omega), if_neg (by omega), Option.bind_some, if_neg (by decide), tLt (by omega) (by omega) (by omega) (by omega), if_neg (by omega), tLt (by omega) (by omega) (by omega) (by omega), if_neg (by omega), Option.bind_some, if_neg (by decide), lI30, iI_mul, iI_add, e4, if_pos rfl, e3, P.f0, RP.1 _ (by omega)]
theorem a_riv1 (S : FS a b p) (R : RepS h b z) (F : WF z) {x : Nat} (hx : x < 10) (h3 : (x : Int) < z 185) : ∀ (n d fu : Nat) (acc : Int), (d : Int) + n = z 185 → n < fu → f_A_rivals_4 h fu a (iI x) (iI acc) (iI d) = some (iI (acc + sm (fun d => if nbr z x d ∧ z (124 + 6 * x) = z (124 + 6 * d) then 1 else 0) n d)) := by
  obtain ⟨⟨w1, w2⟩, ⟨n1, n2⟩, -⟩ := id F
  intro n
  induction n with
  | zero =>
    intro d fu acc hd hfu
    obtain ⟨fu, rfl⟩ : ∃ k, fu = k + 1 := ⟨fu - 1, by omega⟩
    rw [f_A_rivals_4, S.f0, R.nd, tLe (by omega) (by omega) (by omega) (by omega), if_pos (by omega)]
    show some (iI acc) = some (iI (acc + 0))
    rw [Int.add_zero]
  | succ n ih =>
    intro d fu acc hd hfu
    obtain ⟨fu, rfl⟩ : ∃ k, fu = k + 1 := ⟨fu - 1, by omega⟩
    have hd10 : d < 10 := by omega
    have h2 : (d : Int) < z 185 := by omega
    have nx : ∀ acc : Int, f_A_rivals_4 h fu a (iI x) (iI acc) (iI ((d : Int) + 1)) = some (iI (acc + sm (fun d => if nbr z x d ∧ z (124 + 6 * x) = z (124 + 6 * d) then 1 else 0) n (d + 1))) := fun acc => ih (d + 1) fu acc (by omega) (by omega)
    show _ = some (iI (acc + ((if nbr z x d ∧ z (124 + 6 * x) = z (124 + 6 * d) then 1 else 0) + sm (fun d => if nbr z x d ∧ z (124 + 6 * x) = z (124 + 6 * d) then 1 else 0) n (d + 1))))
    rw [f_A_rivals_4, S.f0, R.nd, tLe (by omega) (by omega) (by omega) (by omega), if_neg (by omega)]
    rw [a_beside S R F hx h3 hd10 h2, Option.bind_some, e2_ hx, e2_ hd10, if_pos rfl, if_pos rfl, e1_ hx, e1_ hd10, R.q2 S.bs hx h3, R.q2 S.bs hd10 h2]
    have hDx := F.2.2.2.2.2.1 x hx
    have hDd := F.2.2.2.2.2.1 d hd10
    rw [tEq (by omega) (by omega) (by omega) (by omega)]
    unfold f_A_rivals_50 f_A_rivals_51
    rw [lI0, lI1, iI_add, iI_add, iI_add, nx, nx, ← lI0, ← lI1]
    by_cases c1 : nbr z x d
    · rw [if_pos c1, if_neg (by decide)]
      by_cases c2 : z (124 + 6 * x) = z (124 + 6 * d)
      · have n5 : nbr z x d ∧ z (124 + 6 * x) = z (124 + 6 * d) := ⟨c1, c2⟩
        rw [if_pos c2, if_pos n5, Int.add_assoc]
      · have n5 : ¬ (nbr z x d ∧ z (124 + 6 * x) = z (124 + 6 * d)) := fun q => c2 q.2
        rw [if_neg c2, if_neg n5, Int.add_assoc]
    · have n5 : ¬ (nbr z x d ∧ z (124 + 6 * x) = z (124 + 6 * d)) := fun q => c1 q.1
      rw [if_neg c1, if_pos rfl, if_neg n5, Int.add_assoc]
theorem a_nbrs1 (S : FS a b p) (R : RepS h b z) (F : WF z) {x : Nat} (hx : x < 10) (h3 : (x : Int) < z 185) : ∀ (n d fu : Nat) (acc : Int), (d : Int) + n = z 185 → n < fu → f_A_neighbours_4 h fu a (iI x) (iI acc) (iI d) = some (iI (acc + sm (fun d => if nbr z x d then 1 else 0) n d)) := by
  obtain ⟨⟨w1, w2⟩, ⟨n1, n2⟩, -⟩ := id F
  intro n
  induction n with
  | zero =>
    intro d fu acc hd hfu
    obtain ⟨fu, rfl⟩ : ∃ k, fu = k + 1 := ⟨fu - 1, by omega⟩
    rw [f_A_neighbours_4, S.f0, R.nd, tLe (by omega) (by omega) (by omega) (by omega), if_pos (by omega)]
    show some (iI acc) = some (iI (acc + 0))
    rw [Int.add_zero]
  | succ n ih =>
    intro d fu acc hd hfu
    obtain ⟨fu, rfl⟩ : ∃ k, fu = k + 1 := ⟨fu - 1, by omega⟩
    have hd10 : d < 10 := by omega
    have h2 : (d : Int) < z 185 := by omega
    have nx : ∀ acc : Int, f_A_neighbours_4 h fu a (iI x) (iI acc) (iI ((d : Int) + 1)) = some (iI (acc + sm (fun d => if nbr z x d then 1 else 0) n (d + 1))) := fun acc => ih (d + 1) fu acc (by omega) (by omega)
    show _ = some (iI (acc + ((if nbr z x d then 1 else 0) + sm (fun d => if nbr z x d then 1 else 0) n (d + 1))))
    rw [f_A_neighbours_4, S.f0, R.nd, tLe (by omega) (by omega) (by omega) (by omega), if_neg (by omega)]
    rw [a_beside S R F hx h3 hd10 h2, Option.bind_some]
    unfold f_A_neighbours_30
    rw [lI0, lI1, iI_add, iI_add, iI_add, nx, nx, ← lI0, ← lI1]
    by_cases c1 : nbr z x d
    · rw [if_pos c1, if_neg (by decide), if_pos c1, Int.add_assoc]
    · rw [if_neg c1, if_pos rfl, if_neg c1, Int.add_assoc]
theorem a_rivals (S : FS a b p) (R : RepS h b z) (F : WF z) {x : Nat} (hx : x < 10) (h3 : (x : Int) < z 185) : f_A_rivals h a (iI x) = some (iI (rivZ z x)) := by
  obtain ⟨-, ⟨n1, n2⟩, -⟩ := id F
  unfold f_A_rivals rivZ
  have := a_riv1 S R F hx h3 (z 185).toNat 0 4096 0 (by omega) (by omega)
  rw [Int.zero_add] at this
  rw [lI0]
  exact this
theorem a_nbrs (S : FS a b p) (R : RepS h b z) (F : WF z) {x : Nat} (hx : x < 10) (h3 : (x : Int) < z 185) : f_A_neighbours h a (iI x) = some (iI (nbrZ z x)) := by
  obtain ⟨-, ⟨n1, n2⟩, -⟩ := id F
  unfold f_A_neighbours nbrZ
  have := a_nbrs1 S R F hx h3 (z 185).toNat 0 4096 0 (by omega) (by omega)
  rw [Int.zero_add] at this
  rw [lI0]
  exact this
theorem a_lack (S : FS a b p) (R : RepS h b z) (RP : RepPw h p (shareZ z)) (F : WF z) {d : Nat} (hd : d < 10) (h2 : (d : Int) < z 185) : f_A_plugsLacking h a (iI d) = some (iI (lackZ z d)) := by
  unfold f_A_plugsLacking lackZ
  rw [S.f0, S.f1, st_stands R S.bs F hd h2, Option.bind_some, e2_ hd, if_pos rfl, w_had S.ps RP hd, Option.bind_some, e1_ hd, R.q4 S.bs hd h2, iI_sub]
  by_cases c : z (127 + 6 * d) = -1
  · rw [if_pos c, if_pos c, if_pos rfl, lI0]
  · rw [if_neg c, if_neg c, if_neg (by decide)]
theorem a_rent (S : FS a b p) (R : RepS h b z) (RP : RepPw h p (shareZ z)) (F : WF z) {d : Nat} (hd : d < 10) (h2 : (d : Int) < z 185) : f_A_rentOf h a (iI d) = some (iI (rentZ z d)) := by
  have hB := base_b F hd
  have hL := lack_b F hd
  have hR := riv_b F d
  obtain ⟨s0, s1, s2, s3, s4, s5⟩ := set_b F
  have m1 := mulb s4.1 s4.2 hL.1 hL.2
  have e82 : ∀ x : Int, 0 ≤ x → x ≤ 700 → f_A_rentOf_82 h a (iI d) (iI x) = some (iI (max (x - z 194 * lackZ z d) 0)) := by
    intro x h1 h3
    unfold f_A_rentOf_82 f_J_max
    rw [ibs4, if_pos rfl, a_lack S R RP F hd h2, Option.bind_some, S.f0, R.s4 S.bs, iI_mul, iI_sub, lI0, tLt (by omega) (by omega) (by omega) (by omega)]
    by_cases c : x - z 194 * lackZ z d < 0
    · rw [if_pos c, Option.bind_some, Int.max_eq_right (by omega)]
    · rw [if_neg c, Option.bind_some, Int.max_eq_left (by omega)]
  unfold f_A_rentOf rentZ
  rw [S.f0, S.f1, st_stands R S.bs F hd h2, Option.bind_some]
  by_cases c : z (127 + 6 * d) = -1
  · rw [if_pos c, if_pos c, if_pos rfl, lI0]
  · rw [if_neg c, if_neg c, if_neg (by decide), ibs0, ibs2, ibs3, e2_ hd, if_pos rfl, if_pos rfl, if_pos rfl, a_ends S R F hd h2, Option.bind_some, if_pos rfl, w_had S.ps RP hd, Option.bind_some, a_rivals S R F hd h2, Option.bind_some, R.s0 S.bs, R.s2 S.bs, R.s3 S.bs, e1_ hd, R.q3 S.bs hd h2, iI_mul, iI_mul, iI_mul, iI_add, iI_add]
    have eb : z 190 * z (125 + 6 * d) + z 192 * endZ z d + z 193 * (shareZ z).2.1 d = baseZ z d := rfl
    rw [eb, lI0, lI4, tLe (by omega) (by omega) (by omega) (by omega), iI_div (by omega) (by omega) (by omega) (by omega), iI_sub]
    by_cases c2 : rivZ z d ≤ 0
    · rw [if_pos c2, if_pos c2, e82 _ hB.1 hB.2]
    · rw [if_neg c2, if_neg c2, e82 _ (by omega) (by omega)]
theorem a_standing1 (S : FS a b p) (R : RepS h b z) (F : WF z) : ∀ (n d fu : Nat) (acc : Int), (d : Int) + n = z 185 → n < fu → f_A_standing_4 h fu a (iI acc) (iI d) = some (iI (acc + sm (fun d => if z (127 + 6 * d) = -1 then 0 else 1) n d)) := by
  obtain ⟨⟨w1, w2⟩, ⟨n1, n2⟩, -⟩ := id F
  intro n
  induction n with
  | zero =>
    intro d fu acc hd hfu
    obtain ⟨fu, rfl⟩ : ∃ k, fu = k + 1 := ⟨fu - 1, by omega⟩
    rw [f_A_standing_4, S.f0, R.nd, tLe (by omega) (by omega) (by omega) (by omega), if_pos (by omega)]
    show some (iI acc) = some (iI (acc + 0))
    rw [Int.add_zero]
  | succ n ih =>
    intro d fu acc hd hfu
    obtain ⟨fu, rfl⟩ : ∃ k, fu = k + 1 := ⟨fu - 1, by omega⟩
    have hd10 : d < 10 := by omega
    have h2 : (d : Int) < z 185 := by omega
    have nx : ∀ acc : Int, f_A_standing_4 h fu a (iI acc) (iI ((d : Int) + 1)) = some (iI (acc + sm (fun d => if z (127 + 6 * d) = -1 then 0 else 1) n (d + 1))) := fun acc => ih (d + 1) fu acc (by omega) (by omega)
    show _ = some (iI (acc + ((if z (127 + 6 * d) = -1 then 0 else 1) + sm (fun d => if z (127 + 6 * d) = -1 then 0 else 1) n (d + 1))))
    rw [f_A_standing_4, S.f0, R.nd, tLe (by omega) (by omega) (by omega) (by omega), if_neg (by omega)]
    rw [st_stands R S.bs F hd10 h2, Option.bind_some]
    unfold f_A_standing_32
    rw [lI0, lI1, iI_add, iI_add, iI_add, nx, nx, ← lI0, ← lI1]
    by_cases c1 : z (127 + 6 * d) = -1
    · rw [if_pos c1, if_pos rfl, if_pos c1, Int.add_assoc]
    · rw [if_neg c1, if_neg (by decide), if_neg c1, Int.add_assoc]
theorem a_owed1 (S : FS a b p) (R : RepS h b z) (F : WF z) : ∀ (n d fu : Nat) (acc : Int), (d : Int) + n = z 185 → n < fu → f_A_allOwed_4 h fu a (iI acc) (iI d) = some (iI (acc + sm (fun d => z (129 + 6 * d)) n d)) := by
  obtain ⟨⟨w1, w2⟩, ⟨n1, n2⟩, -⟩ := id F
  intro n
  induction n with
  | zero =>
    intro d fu acc hd hfu
    obtain ⟨fu, rfl⟩ : ∃ k, fu = k + 1 := ⟨fu - 1, by omega⟩
    rw [f_A_allOwed_4, S.f0, R.nd, tLe (by omega) (by omega) (by omega) (by omega), if_pos (by omega)]
    show some (iI acc) = some (iI (acc + 0))
    rw [Int.add_zero]
  | succ n ih =>
    intro d fu acc hd hfu
    obtain ⟨fu, rfl⟩ : ∃ k, fu = k + 1 := ⟨fu - 1, by omega⟩
    have hd10 : d < 10 := by omega
    have h2 : (d : Int) < z 185 := by omega
    have nx : ∀ acc : Int, f_A_allOwed_4 h fu a (iI acc) (iI ((d : Int) + 1)) = some (iI (acc + sm (fun d => z (129 + 6 * d)) n (d + 1))) := fun acc => ih (d + 1) fu acc (by omega) (by omega)
    show _ = some (iI (acc + ((z (129 + 6 * d)) + sm (fun d => z (129 + 6 * d)) n (d + 1))))
    rw [f_A_allOwed_4, S.f0, R.nd, tLe (by omega) (by omega) (by omega) (by omega), if_neg (by omega), lI10, tLe (by omega) (by omega) (by omega) (by omega), if_neg (by omega)]
    rw [e2_ hd10, if_pos rfl, e1_ hd10, R.q7 S.bs hd10 h2, iI_add, lI1, iI_add, nx, Int.add_assoc]
theorem a_had1 (S : FS a b p) (R : RepS h b z) (F : WF z) (RP : RepPw h p (shareZ z)) : ∀ (n d fu : Nat) (acc : Int), (d : Int) + n = z 185 → n < fu → f_A_allPlugsHad_4 h fu a (iI acc) (iI d) = some (iI (acc + sm (fun d => (shareZ z).2.1 d) n d)) := by
  obtain ⟨⟨w1, w2⟩, ⟨n1, n2⟩, -⟩ := id F
  intro n
  induction n with
  | zero =>
    intro d fu acc hd hfu
    obtain ⟨fu, rfl⟩ : ∃ k, fu = k + 1 := ⟨fu - 1, by omega⟩
    rw [f_A_allPlugsHad_4, S.f0, R.nd, tLe (by omega) (by omega) (by omega) (by omega), if_pos (by omega)]
    show some (iI acc) = some (iI (acc + 0))
    rw [Int.add_zero]
  | succ n ih =>
    intro d fu acc hd hfu
    obtain ⟨fu, rfl⟩ : ∃ k, fu = k + 1 := ⟨fu - 1, by omega⟩
    have hd10 : d < 10 := by omega
    have h2 : (d : Int) < z 185 := by omega
    have nx : ∀ acc : Int, f_A_allPlugsHad_4 h fu a (iI acc) (iI ((d : Int) + 1)) = some (iI (acc + sm (fun d => (shareZ z).2.1 d) n (d + 1))) := fun acc => ih (d + 1) fu acc (by omega) (by omega)
    show _ = some (iI (acc + (((shareZ z).2.1 d) + sm (fun d => (shareZ z).2.1 d) n (d + 1))))
    rw [f_A_allPlugsHad_4, S.f0, R.nd, tLe (by omega) (by omega) (by omega) (by omega), if_neg (by omega)]
    rw [S.f1, w_had S.ps RP hd10, Option.bind_some, iI_add, lI1, iI_add, nx, Int.add_assoc]
theorem a_lacks1 (S : FS a b p) (R : RepS h b z) (F : WF z) (RP : RepPw h p (shareZ z)) : ∀ (n d fu : Nat) (acc : Int), (d : Int) + n = z 185 → n < fu → f_A_allPlugsLacking_4 h fu a (iI acc) (iI d) = some (iI (acc + sm (fun d => lackZ z d) n d)) := by
  obtain ⟨⟨w1, w2⟩, ⟨n1, n2⟩, -⟩ := id F
  intro n
  induction n with
  | zero =>
    intro d fu acc hd hfu
    obtain ⟨fu, rfl⟩ : ∃ k, fu = k + 1 := ⟨fu - 1, by omega⟩
    rw [f_A_allPlugsLacking_4, S.f0, R.nd, tLe (by omega) (by omega) (by omega) (by omega), if_pos (by omega)]
    show some (iI acc) = some (iI (acc + 0))
    rw [Int.add_zero]
  | succ n ih =>
    intro d fu acc hd hfu
    obtain ⟨fu, rfl⟩ : ∃ k, fu = k + 1 := ⟨fu - 1, by omega⟩
    have hd10 : d < 10 := by omega
    have h2 : (d : Int) < z 185 := by omega
    have nx : ∀ acc : Int, f_A_allPlugsLacking_4 h fu a (iI acc) (iI ((d : Int) + 1)) = some (iI (acc + sm (fun d => lackZ z d) n (d + 1))) := fun acc => ih (d + 1) fu acc (by omega) (by omega)
    show _ = some (iI (acc + ((lackZ z d) + sm (fun d => lackZ z d) n (d + 1))))
    rw [f_A_allPlugsLacking_4, S.f0, R.nd, tLe (by omega) (by omega) (by omega) (by omega), if_neg (by omega)]
    rw [a_lack S R RP F hd10 h2, Option.bind_some, iI_add, lI1, iI_add, nx, Int.add_assoc]
theorem a_rents1 (S : FS a b p) (R : RepS h b z) (F : WF z) (RP : RepPw h p (shareZ z)) : ∀ (n d fu : Nat) (acc : Int), (d : Int) + n = z 185 → n < fu → f_A_rents_4 h fu a (iI acc) (iI d) = some (iI (acc + sm (fun d => rentZ z d) n d)) := by
  obtain ⟨⟨w1, w2⟩, ⟨n1, n2⟩, -⟩ := id F
  intro n
  induction n with
  | zero =>
    intro d fu acc hd hfu
    obtain ⟨fu, rfl⟩ : ∃ k, fu = k + 1 := ⟨fu - 1, by omega⟩
    rw [f_A_rents_4, S.f0, R.nd, tLe (by omega) (by omega) (by omega) (by omega), if_pos (by omega)]
    show some (iI acc) = some (iI (acc + 0))
    rw [Int.add_zero]
  | succ n ih =>
    intro d fu acc hd hfu
    obtain ⟨fu, rfl⟩ : ∃ k, fu = k + 1 := ⟨fu - 1, by omega⟩
    have hd10 : d < 10 := by omega
    have h2 : (d : Int) < z 185 := by omega
    have nx : ∀ acc : Int, f_A_rents_4 h fu a (iI acc) (iI ((d : Int) + 1)) = some (iI (acc + sm (fun d => rentZ z d) n (d + 1))) := fun acc => ih (d + 1) fu acc (by omega) (by omega)
    show _ = some (iI (acc + ((rentZ z d) + sm (fun d => rentZ z d) n (d + 1))))
    rw [f_A_rents_4, S.f0, R.nd, tLe (by omega) (by omega) (by omega) (by omega), if_neg (by omega)]
    rw [a_rent S R RP F hd10 h2, Option.bind_some, iI_add, lI1, iI_add, nx, Int.add_assoc]
theorem a_stAt1 (S : FS a b p) (R : RepS h b z) (F : WF z) {x : Int} (hx : 0 ≤ x ∧ x < 4) : ∀ (n d fu : Nat) (acc : Int), (d : Int) + n = z 185 → n < fu → f_A_standingAt_4 h fu a (iI x) (iI acc) (iI d) = some (iI (acc + sm (fun d => if z (127 + 6 * d) = x then 1 else 0) n d)) := by
  obtain ⟨⟨w1, w2⟩, ⟨n1, n2⟩, -⟩ := id F
  intro n
  induction n with
  | zero =>
    intro d fu acc hd hfu
    obtain ⟨fu, rfl⟩ : ∃ k, fu = k + 1 := ⟨fu - 1, by omega⟩
    rw [f_A_standingAt_4, S.f0, R.nd, tLe (by omega) (by omega) (by omega) (by omega), if_pos (by omega)]
    show some (iI acc) = some (iI (acc + 0))
    rw [Int.add_zero]
  | succ n ih =>
    intro d fu acc hd hfu
    obtain ⟨fu, rfl⟩ : ∃ k, fu = k + 1 := ⟨fu - 1, by omega⟩
    have hd10 : d < 10 := by omega
    have h2 : (d : Int) < z 185 := by omega
    have nx : ∀ acc : Int, f_A_standingAt_4 h fu a (iI x) (iI acc) (iI ((d : Int) + 1)) = some (iI (acc + sm (fun d => if z (127 + 6 * d) = x then 1 else 0) n (d + 1))) := fun acc => ih (d + 1) fu acc (by omega) (by omega)
    show _ = some (iI (acc + ((if z (127 + 6 * d) = x then 1 else 0) + sm (fun d => if z (127 + 6 * d) = x then 1 else 0) n (d + 1))))
    rw [f_A_standingAt_4, S.f0, R.nd, tLe (by omega) (by omega) (by omega) (by omega), if_neg (by omega)]
    rw [at_stands R S.bs F hd10 h2 hx, Option.bind_some]
    unfold f_A_standingAt_33
    rw [lI0, lI1, iI_add, iI_add, iI_add, nx, nx, ← lI0, ← lI1]
    by_cases c1 : z (127 + 6 * d) = x
    · rw [if_pos c1, if_neg (by decide), if_pos c1, Int.add_assoc]
    · rw [if_neg c1, if_pos rfl, if_neg c1, Int.add_assoc]
theorem a_frF1 (S : FS a b p) (R : RepS h b z) (F : WF z) {x : Int} (hx : 0 ≤ x ∧ x < 4) : ∀ (n d fu : Nat) (acc : Int), (d : Int) + n = z 185 → n < fu → f_A_freeByFrontages_11 h fu a (iI x) (iI acc) (iI d) = some (iI (acc - sm (fun d => if z (127 + 6 * d) = x then z (125 + 6 * d) else 0) n d)) := by
  obtain ⟨⟨w1, w2⟩, ⟨n1, n2⟩, -⟩ := id F
  intro n
  induction n with
  | zero =>
    intro d fu acc hd hfu
    obtain ⟨fu, rfl⟩ : ∃ k, fu = k + 1 := ⟨fu - 1, by omega⟩
    rw [f_A_freeByFrontages_11, S.f0, R.nd, tLe (by omega) (by omega) (by omega) (by omega), if_pos (by omega)]
    show some (iI acc) = some (iI (acc - 0))
    rw [Int.sub_zero]
  | succ n ih =>
    intro d fu acc hd hfu
    obtain ⟨fu, rfl⟩ : ∃ k, fu = k + 1 := ⟨fu - 1, by omega⟩
    have hd10 : d < 10 := by omega
    have h2 : (d : Int) < z 185 := by omega
    have nx : ∀ acc : Int, f_A_freeByFrontages_11 h fu a (iI x) (iI acc) (iI ((d : Int) + 1)) = some (iI (acc - sm (fun d => if z (127 + 6 * d) = x then z (125 + 6 * d) else 0) n (d + 1))) := fun acc => ih (d + 1) fu acc (by omega) (by omega)
    show _ = some (iI (acc - ((if z (127 + 6 * d) = x then z (125 + 6 * d) else 0) + sm (fun d => if z (127 + 6 * d) = x then z (125 + 6 * d) else 0) n (d + 1))))
    rw [f_A_freeByFrontages_11, S.f0, R.nd, tLe (by omega) (by omega) (by omega) (by omega), if_neg (by omega), lI10, tLe (by omega) (by omega) (by omega) (by omega), if_neg (by omega)]
    rw [at_stands R S.bs F hd10 h2 hx, Option.bind_some, e2_ hd10, if_pos rfl, e1_ hd10, R.q3 S.bs hd10 h2]
    unfold f_A_freeByFrontages_54
    rw [lI0, iI_sub, iI_sub, lI1, iI_add, nx, nx, ← lI0, ← lI1]
    by_cases c1 : z (127 + 6 * d) = x
    · rw [if_pos c1, if_neg (by decide), if_pos c1, Int.sub_sub]
    · rw [if_neg c1, if_pos rfl, if_neg c1, Int.sub_sub]
theorem a_metres1 (S : FS a b p) (R : RepS h b z) (F : WF z) : ∀ (n d fu : Nat) (acc : Int), (d : Int) + n = z 184 → n < fu → f_A_allMetres_4 h fu a (iI acc) (iI d) = some (iI (acc + sm (fun d => z (31 * d)) n d)) := by
  obtain ⟨⟨w1, w2⟩, ⟨n1, n2⟩, -⟩ := id F
  intro n
  induction n with
  | zero =>
    intro d fu acc hd hfu
    obtain ⟨fu, rfl⟩ : ∃ k, fu = k + 1 := ⟨fu - 1, by omega⟩
    rw [f_A_allMetres_4, S.f0, R.nw, tLe (by omega) (by omega) (by omega) (by omega), if_pos (by omega)]
    show some (iI acc) = some (iI (acc + 0))
    rw [Int.add_zero]
  | succ n ih =>
    intro d fu acc hd hfu
    obtain ⟨fu, rfl⟩ : ∃ k, fu = k + 1 := ⟨fu - 1, by omega⟩
    have hd10 : d < 4 := by omega
    have h2 : (d : Int) < z 184 := by omega
    have nx : ∀ acc : Int, f_A_allMetres_4 h fu a (iI acc) (iI ((d : Int) + 1)) = some (iI (acc + sm (fun d => z (31 * d)) n (d + 1))) := fun acc => ih (d + 1) fu acc (by omega) (by omega)
    show _ = some (iI (acc + ((z (31 * d)) + sm (fun d => z (31 * d)) n (d + 1))))
    rw [f_A_allMetres_4, S.f0, R.nw, tLe (by omega) (by omega) (by omega) (by omega), if_neg (by omega)]
    rw [st_len R S.bs F (w := (d : Int)) ⟨by omega, by omega⟩, Option.bind_some, show (d : Int).toNat = d by omega, iI_add, lI1, iI_add, nx, Int.add_assoc]
end FAIRS
