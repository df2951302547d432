/-! kept: the dealers -/
section KEPTD
variable {h : HP} {z : Nat → Int} {B : Int} {A : (Nat → Nat → Int) × Nat × (Nat → Bool) × (Nat → Nat → Int) × (Nat → Int) × Nat} {y2 y4 y6 y8 y10 y12 y14 y16 y19 : Int64} {x18 x22 : Int32} {d : Nat}
theorem kept_613 (I : CI B h (z, A)) {K : Nat → Int32 → Int64 → Int64 → Int64 → Int64 → Int64 → Int64 → Int64 → Int64 → Int32 → Int64 → Int32 → HP → Option (Int32 × HP)} (hd : (d : Int) < z 185) : ∀ (n k fu : Nat), k + n = 3 → n < fu →
    f_Q_kept_613 K fu 180 1 y2 y4 y6 y8 y10 y12 y14 y16 x18 y19 (iI d) x22 (i64 ((shareZ z).2.1 d)) (iI k) h = f_Q_kept_736 K 180 1 y2 y4 y6 y8 y10 y12 y14 y16 x18 y19 (iI d) x22 (i64 ((shareZ z).2.1 d)) h := by
  have F := I.wf
  have hn := F.2.1
  have hh := rg_had F (d := d) (by omega)
  have hW := F.wall (d := d) (by omega) hd
  have hD := F.2.2.2.2.2.1 d (by omega)
  have h9 := F.2.2.2.2.2.2.2.2.1 1 (by omega)
  have h9 : 0 ≤ z 191 ∧ z 191 ≤ 50 := h9
  intro n
  induction n with
  | zero =>
    intro k fu hk hf
    obtain ⟨fu, rfl⟩ : ∃ j, fu = j + 1 := ⟨fu - 1, by omega⟩
    rw [f_Q_kept_613, lI3, tLe (by omega) (by omega) (by omega) (by omega), if_pos (by omega)]
  | succ n ih =>
    intro k fu hk hf
    obtain ⟨fu, rfl⟩ : ∃ j, fu = j + 1 := ⟨fu - 1, by omega⟩
    have hk3 : k < 3 := by omega
    have hs := rg_src F hd hk3
    have go : f_Q_kept_724 K (f_Q_kept_613 K fu) 180 y2 y4 y6 y8 y10 y12 y14 y16 x18 y19 (iI d) x22 (i64 ((shareZ z).2.1 d)) (iI k) h = f_Q_kept_736 K 180 1 y2 y4 y6 y8 y10 y12 y14 y16 x18 y19 (iI d) x22 (i64 ((shareZ z).2.1 d)) h := by
      rw [f_Q_kept_724, f_Q_kept_729, lI1, iI_add, show (k : Int) + 1 = ((k + 1 : Nat) : Int) by omega]
      exact ih (k + 1) fu (by omega) (by omega)
    rw [f_Q_kept_613, lI3, tLe (by omega) (by omega) (by omega) (by omega), if_neg (by omega)]
    refine tif_n (by decide) ?_
    refine stq (np_k I hd hk3) ?_
    refine stq (nd_4 I hd) ?_
    refine stq (nd_1 I hd) ?_
    dsimp only
    rw [l64_m, l64_1, i64_a, i64_s]
    by_cases c : (shareZ z).2.1 d ≤ k
    · have e := share_src F d k (by omega) hk3 c
      refine teq_p e ?_
      rw [f_Q_kept_670, ix64 (x := (k : Int)) (by omega) (by omega)]
      refine tlt_n ⟨by omega, by omega⟩ ⟨by omega, by omega⟩ (by omega) ?_
      rw [f_Q_kept_684, if_pos rfl, l64_m]
      refine teq_p e ?_
      exact go
    · have q := (sh_SI F).2.2.1 d k (by omega) hk3 (by omega)
      refine teq_n ⟨by omega, by omega⟩ ⟨by omega, by omega⟩ (by omega) ?_
      rw [f_Q_kept_670, ix64 (x := (k : Int)) (by omega) (by omega)]
      refine tlt_p ⟨by omega, by omega⟩ ⟨by omega, by omega⟩ (by omega) ?_
      rw [f_Q_kept_684, if_pos rfl, l64_m]
      refine teq_n ⟨by omega, by omega⟩ ⟨by omega, by omega⟩ (by omega) ?_
      refine stq (ns_1 I) ?_
      dsimp only
      rw [i64_s]
      refine tlt_n ⟨by omega, by omega⟩ ⟨by omega, by omega⟩ (by omega) ?_
      refine stq (ns_1 I) ?_
      dsimp only
      rw [i64_a]
      refine tgt_n ⟨by omega, by omega⟩ ⟨by omega, by omega⟩ (by omega) ?_
      exact go
theorem kept_736 (I : CI B h (z, A)) (hB : B ≤ 50000000) {K : Nat → Int32 → Int64 → Int64 → Int64 → Int64 → Int64 → Int64 → Int64 → Int64 → Int32 → Int64 → Int32 → HP → Option (Int32 × HP)} (hd : (d : Int) < z 185) {s : Int} :
    f_Q_kept_736 K 180 1 y2 y4 y6 y8 y10 y12 y14 y16 (iI s) y19 (iI d) (if z (127 + 6 * d) = -1 then 0 else 1) (i64 ((shareZ z).2.1 d)) h = K 180 1 y2 y4 y6 y8 (y10 + i64 ((shareZ z).2.1 d)) (y12 + i64 (lackZ z d)) (y14 + i64 (rentZ z d)) (y16 + i64 (z (129 + 6 * d))) (iI (s + if z (127 + 6 * d) = -1 then 0 else 1)) (y19 + i64 (rivZ z d)) (iI ((d + 1 : Nat) : Int)) h := by
  rw [f_Q_kept_736]
  refine stq (nd_6 I hd) ?_
  refine stq (nd_7 I hd) ?_
  refine stq (nd_8 I hB hd) ?_
  dsimp only
  by_cases c : z (127 + 6 * d) = -1
  · rw [if_pos c, if_pos c, if_pos rfl, f_Q_kept_794]
    refine stq (nd_11 I hd) ?_
    dsimp only
    rw [lI1, lI0, iI_add, iI_add, show (d : Int) + 1 = ((d + 1 : Nat) : Int) by omega]
  · rw [if_neg c, if_neg c, if_neg (by decide), f_Q_kept_794]
    refine stq (nd_11 I hd) ?_
    dsimp only
    rw [lI1, iI_add, iI_add, show (d : Int) + 1 = ((d + 1 : Nat) : Int) by omega]
theorem kept_556 (I : CI B h (z, A)) {K : Nat → Int32 → Int64 → Int64 → Int64 → Int64 → Int64 → Int64 → Int64 → Int64 → Int32 → Int64 → Int32 → HP → Option (Int32 × HP)} (hd : (d : Int) < z 185) :
    f_Q_kept_556 K 180 y2 y4 y6 y8 y10 y12 y14 y16 x18 y19 (iI d) x22 (i64 ((shareZ z).2.1 d)) h = f_Q_kept_736 K 180 1 y2 y4 y6 y8 y10 y12 y14 y16 x18 y19 (iI d) x22 (i64 ((shareZ z).2.1 d)) h := by
  have F := I.wf
  have hn := F.2.1
  have g1 := riv_b F d
  have g2 := rg_nbr F hd
  have g3 := riv_nbr z d
  have g4 := rent_b F (d := d) (by omega)
  rw [f_Q_kept_556]
  refine stq (nd_11 I hd) ?_
  refine stq (nd_10 I hd) ?_
  dsimp only
  refine tgt_n ⟨by omega, by omega⟩ ⟨by omega, by omega⟩ (by omega) ?_
  refine stq (nd_10 I hd) ?_
  dsimp only
  rw [l64_2]
  refine tgt_n ⟨by omega, by omega⟩ ⟨by omega, by omega⟩ (by omega) ?_
  refine stq (nd_7 I hd) ?_
  dsimp only
  rw [l64_0]
  refine tlt_n ⟨by omega, by omega⟩ ⟨by omega, by omega⟩ (by omega) ?_
  rw [f_Q_kept_609, lI0]
  exact kept_613 I hd 3 0 4096 (by omega) (by omega)
theorem kept_432 (I : CI B h (z, A)) {K : Nat → Int32 → Int64 → Int64 → Int64 → Int64 → Int64 → Int64 → Int64 → Int64 → Int32 → Int64 → Int32 → HP → Option (Int32 × HP)} (hd : (d : Int) < z 185) :
    f_Q_kept_432 K 180 y2 y4 y6 y8 y10 y12 y14 y16 x18 y19 (iI d) (if z (127 + 6 * d) = -1 then 0 else 1) h = f_Q_kept_736 K 180 1 y2 y4 y6 y8 y10 y12 y14 y16 x18 y19 (iI d) (if z (127 + 6 * d) = -1 then 0 else 1) (i64 ((shareZ z).2.1 d)) h := by
  have F := I.wf
  have hn := F.2.1
  have hh := rg_had F (d := d) (by omega)
  have hW := F.wall (d := d) (by omega) hd
  have hS := F.2.2.2.2.2.2.1 d (by omega) hd
  rw [f_Q_kept_432]
  refine stq (nd_5 I hd) ?_
  refine stq (nd_4 I hd) ?_
  dsimp only
  rw [l64_m]
  by_cases c : z (127 + 6 * d) = -1
  · have c8 : z (128 + 6 * d) = -1 := by omega
    have h0 := (sh_SI F).2.2.2.2 d (by omega) c
    refine teq_p c8 ?_
    rw [if_pos c, f_Q_kept_464, if_pos rfl, if_pos rfl, l64_0]
    refine teq_p h0 ?_
    refine stq (nd_6 I hd) ?_
    dsimp only
    refine teq_p (if_pos c) ?_
    refine stq (nd_7 I hd) ?_
    dsimp only
    refine teq_p (if_pos c) ?_
    refine stq (nd_9 I hd) ?_
    dsimp only
    refine teq_p (if_pos c) ?_
    refine stq (nd_10 I hd) ?_
    dsimp only
    refine teq_p (nbr_0 c) ?_
    exact kept_556 I hd
  · have c8 : ¬ z (128 + 6 * d) = -1 := by omega
    refine teq_n ⟨by omega, by omega⟩ ⟨by omega, by omega⟩ c8 ?_
    rw [if_neg c, f_Q_kept_464, if_pos rfl, if_neg (by decide)]
    refine stq (nd_6 I hd) ?_
    refine stq (nd_2 I hd) ?_
    dsimp only
    rw [i64_a]
    refine teq_p ?_ ?_
    · unfold lackZ
      rw [if_neg c]
      omega
    · exact kept_556 I hd
theorem kept_397 (I : CI B h (z, A)) (hB : B ≤ 50000000) : ∀ (n d fu : Nat) (a b c e s r : Int), (d : Int) + n = z 185 → n < fu →
    f_Q_kept_397 fu 180 1 y2 y4 y6 y8 (i64 a) (i64 b) (i64 c) (i64 e) (iI s) (i64 r) (iI d) h = f_Q_kept_816 180 1 y2 y4 y6 y8 (i64 (a + sm (fun k => (shareZ z).2.1 k) n d)) (i64 (b + sm (fun k => lackZ z k) n d)) (i64 (c + sm (fun k => rentZ z k) n d)) (i64 (e + sm (fun k => z (129 + 6 * k)) n d)) (iI (s + sm (fun k => if z (127 + 6 * k) = -1 then 0 else 1) n d)) (i64 (r + sm (fun k => rivZ z k) n d)) h := by
  have F := I.wf
  have hn := F.2.1
  intro n
  induction n with
  | zero =>
    intro d fu a b c e s r hm hf
    obtain ⟨fu, rfl⟩ : ∃ j, fu = j + 1 := ⟨fu - 1, by omega⟩
    rw [f_Q_kept_397]
    refine stq (na_1 I) ?_
    dsimp only
    rw [ix64 (x := (d : Int)) (by omega) (by omega)]
    refine tge_p ⟨by omega, by omega⟩ ⟨by omega, by omega⟩ (by omega) ?_
    show _ = f_Q_kept_816 180 1 y2 y4 y6 y8 (i64 (a + 0)) (i64 (b + 0)) (i64 (c + 0)) (i64 (e + 0)) (iI (s + 0)) (i64 (r + 0)) h
    rw [Int.add_zero, Int.add_zero, Int.add_zero, Int.add_zero, Int.add_zero, Int.add_zero]
  | succ n ih =>
    intro d fu a b c e s r hm hf
    obtain ⟨fu, rfl⟩ : ∃ j, fu = j + 1 := ⟨fu - 1, by omega⟩
    have hd : (d : Int) < z 185 := by omega
    have hW := F.wall (d := d) (by omega) hd
    have fin : f_Q_kept_432 (f_Q_kept_397 fu) 180 y2 y4 y6 y8 (i64 a) (i64 b) (i64 c) (i64 e) (iI s) (i64 r) (iI d) (if z (127 + 6 * d) = -1 then 0 else 1) h = f_Q_kept_816 180 1 y2 y4 y6 y8 (i64 (a + sm (fun k => (shareZ z).2.1 k) (n + 1) d)) (i64 (b + sm (fun k => lackZ z k) (n + 1) d)) (i64 (c + sm (fun k => rentZ z k) (n + 1) d)) (i64 (e + sm (fun k => z (129 + 6 * k)) (n + 1) d)) (iI (s + sm (fun k => if z (127 + 6 * k) = -1 then 0 else 1) (n + 1) d)) (i64 (r + sm (fun k => rivZ z k) (n + 1) d)) h := by
      rw [kept_432 I hd, kept_736 I hB hd, i64_a, i64_a, i64_a, i64_a, i64_a, ih (d + 1) fu _ _ _ _ _ _ (by omega) (by omega)]
      show _ = f_Q_kept_816 180 1 y2 y4 y6 y8 (i64 (a + ((shareZ z).2.1 d + sm (fun k => (shareZ z).2.1 k) n (d + 1)))) (i64 (b + (lackZ z d + sm (fun k => lackZ z k) n (d + 1)))) (i64 (c + (rentZ z d + sm (fun k => rentZ z k) n (d + 1)))) (i64 (e + (z (129 + 6 * d) + sm (fun k => z (129 + 6 * k)) n (d + 1)))) (iI (s + ((if z (127 + 6 * d) = -1 then 0 else 1) + sm (fun k => if z (127 + 6 * k) = -1 then 0 else 1) n (d + 1)))) (i64 (r + (rivZ z d + sm (fun k => rivZ z k) n (d + 1)))) h
      rw [Int.add_assoc, Int.add_assoc, Int.add_assoc, Int.add_assoc, Int.add_assoc, Int.add_assoc]
    rw [f_Q_kept_397]
    refine stq (na_1 I) ?_
    dsimp only
    rw [ix64 (x := (d : Int)) (by omega) (by omega)]
    refine tge_n ⟨by omega, by omega⟩ ⟨by omega, by omega⟩ (by omega) ?_
    refine tif_n (by decide) ?_
    refine stq (nd_3 I hd) ?_
    dsimp only
    rw [l64_m]
    by_cases q : z (127 + 6 * d) = -1
    · rw [if_pos q] at fin
      refine teq_p q ?_
      exact fin
    · rw [if_neg q] at fin
      refine teq_n ⟨by omega, by omega⟩ ⟨by omega, by omega⟩ q ?_
      exact fin
theorem kept_816 (I : CI B h (z, A)) (hB : B ≤ 50000000) : f_Q_kept_816 180 1 (i64 (metZ z)) (i64 (fmtZ z)) (i64 (pltZ z)) (i64 (hdtZ z)) (i64 (hdtZ z)) (i64 (lktZ z)) (i64 (rtsZ z)) (i64 (z 189)) (iI (hasZ z)) (i64 (rvtZ z)) h = some (1, h) := by
  have F := I.wf
  have g1 := rg_has F
  have g2 := F.2.2.1
  rw [f_Q_kept_816, if_neg (by decide), ix64 (x := hasZ z) (by omega) (by omega)]
  refine stq (na_2 I) ?_
  refine teq_p rfl ?_
  refine stq (na_3 I) ?_
  refine teq_p rfl ?_
  refine stq (na_4 I) ?_
  refine teq_p rfl ?_
  refine stq (na_5 I) ?_
  refine teq_p rfl ?_
  refine stq (na_6 I) ?_
  refine teq_p rfl ?_
  refine teq_p rfl ?_
  refine stq (na_7 I) ?_
  refine teq_p rfl ?_
  refine stq (na_8 I) ?_
  refine teq_p rfl ?_
  refine stq (na_9 I hB) ?_
  refine teq_p rfl ?_
  refine stq (na_13 I) ?_
  dsimp only
  rw [l64_2, i64_m]
  refine teq_p (riv_even F) ?_
  refine stq (na_11 I) ?_
  dsimp only
  rw [l64_9]
  refine tgt_n ⟨by omega, by omega⟩ ⟨by omega, by omega⟩ (by omega) ?_
  rfl
theorem w_kept (I : CI B h (z, A)) (hB : B ≤ 50000000) : f_Q_kept h 180 = some (1, h) := by
  have F := I.wf
  have hn := F.1
  have hd := F.2.1
  unfold f_Q_kept
  have e := kept_16 I (z 184).toNat 0 4096 0 0 0 0 (by omega) (by omega)
  rw [Int.zero_add, Int.zero_add, Int.zero_add, Int.zero_add, had_tot F] at e
  have e : f_Q_kept_16 4096 180 (1 : Int32) (0 : Int64) (0 : Int64) (0 : Int64) (0 : Int64) (0 : Int32) h = f_Q_kept_376 180 1 (i64 (metZ z)) (i64 (fmtZ z)) (i64 (pltZ z)) (i64 (hdtZ z)) h := e
  rw [e, f_Q_kept_376]
  have e2 := kept_397 I hB (y2 := i64 (metZ z)) (y4 := i64 (fmtZ z)) (y6 := i64 (pltZ z)) (y8 := i64 (hdtZ z)) (z 185).toNat 0 4096 0 0 0 0 0 0 (by omega) (by omega)
  rw [Int.zero_add, Int.zero_add, Int.zero_add, Int.zero_add, Int.zero_add, Int.zero_add] at e2
  have e3 : sm (fun k => z (129 + 6 * k)) (z 185).toNat 0 = z 189 := I.1.2.2.2.2.symm
  rw [e3] at e2
  exact e2.trans (kept_816 I hB)
end KEPTD
