/-! follows: swaps, days, the whole -/
section FOLLOWS2
variable {h : HP} {z : Nat → Int} {B : Int} {R : (Nat → Bool) × (Nat → Nat → Int) × (Nat → Int) × Nat} {ys : Nat → Nat → Int} {c d : Nat} {N : Int}
theorem f_343 (I : CI B h (z, ys, c, R)) (hB : B ≤ 50000000) (hk : R.1 1 = true) (hs : R.2.1 1 = z) (hD : DX N z) (hN : N ≤ 1000000) (hd : (d : Int) < z 185) {s : Int32} (hs0 : s = 0 ↔ z (127 + 6 * d) = -1) {t : Int × Int} (et : t = chO (zst z d (-1) (-1)) d (z 184).toNat 0 (-1, -1)) : Fin3 B z R (f_Q_follows_343 180 (nowV z) (iI d) s (i64 t.1) (i64 t.2) h) := by
  rw [f_Q_follows_343]
  exact f_348 I hB hk hs hD hN hd hs0 et
theorem f_311 (I : CI B h (z, ys, c, R)) (hB : B ≤ 50000000) (hk : R.1 1 = true) (hs : R.2.1 1 = z) (hD : DX N z) (hN : N ≤ 1000000) (hd : (d : Int) < z 185) {s : Int32} (hs0 : s = 0 ↔ z (127 + 6 * d) = -1) {t : Int × Int} (et : t = chO (zst z d (-1) (-1)) d (z 184).toNat 0 (-1, -1)) {e : Nat} (he : (e : Int) < z 185) {T : Int64} (hT : ¬ d = e → T = li (rsnS z d e)) : Fin3 B z R (f_Q_follows_311 180 (nowV z) (iI d) (iI e) s (i64 t.1) (i64 t.2) T h) := by
  have F := I.wf
  have hn := F.2.1
  rw [f_Q_follows_311]
  by_cases q : d = e
  · refine Fin3.p (by rw [q]) ?_
    exact f_343 I hB hk hs hD hN hd hs0 et
  · refine Fin3.n (fun g => q (by have := (iI_eq (by omega) (by omega) (by omega) (by omega)).mp g; omega)) ?_
    obtain ⟨h1, g1, I1⟩ := w_swap (z := z) (A := (ys, c, R)) I (x := d) (y := e) (inn (by omega) (by omega)) (inn (by omega) (by omega)) ⟨by omega, hd⟩ ⟨by omega, he⟩ (by omega) rfl rfl
    have g1 : f_Q_swap h 180 (iI d) (iI e) = some (li (rsnS z d e), h1) := g1
    have I1 : CI B h1 (pushA (z, ys, c, R) (swpZ z d e)) := I1
    refine Fin3.q g1 ?_
    refine Fin3.p (cmp_0.mpr (hT q).symm) ?_
    obtain ⟨h2, g2, I2⟩ := f_und (c14 I) I1
    have hcN := cN_le c (c14 I)
    refine Fin3.q g2 ?_
    refine Fin3.n (i64_nn (by omega) (by omega)) ?_
    exact f_343 I2 hB hk hs hD hN hd hs0 et
theorem f_272 (I : CI B h (z, ys, c, R)) (hB : B ≤ 50000000) (hk : R.1 1 = true) (hs : R.2.1 1 = z) (hD : DX N z) (hN : N ≤ 1000000) (hd : (d : Int) < z 185) {s : Int32} (hs0 : s = 0 ↔ z (127 + 6 * d) = -1) {e : Nat} (he : (e : Int) < z 185) : Fin3 B z R (f_Q_follows_272 180 (nowV z) (iI d) (iI e) s h) := by
  have F := I.wf
  have hn := F.2.1
  obtain ⟨t, et⟩ : ∃ t, t = chO (zst z d (-1) (-1)) d (z 184).toNat 0 (-1, -1) := ⟨_, rfl⟩
  have Fz : WF (zst z d (-1) (-1)) := wf_zst F (by omega) hd (Or.inl ⟨rfl, rfl⟩)
  have k1 := (cheap_is F (d := d) (by omega)).1
  rw [← et] at k1
  have rg : (-1 ≤ t.1 ∧ t.1 ≤ 1000) ∧ -1 ≤ t.2 ∧ t.2 ≤ 1000 := by
    rcases k1 with ⟨e1, e2⟩ | ⟨W, M, hW, hM, e1, e2, e3⟩
    · omega
    · have u184 : zst z d (-1) (-1) 184 = z 184 := zst_n _ _ _ _ (by omega) (by omega)
      have hw := Fz.1
      have hL := Fz.2.2.2.1 W (by omega)
      have := rif_b Fz (d := d) (by omega) (by rw [zst_n _ _ _ _ (by omega) (by omega)]; exact hd) (w := W) (f := M) ⟨by omega, hW⟩ (by omega)
      omega
  obtain ⟨h1, g1, q1⟩ := w_cheapest I (x := d) (v := 0) (inn (by omega) (by omega)) (inn (by omega) (by omega)) ⟨by omega, hd⟩ (by omega) rfl lI0
  have I1 := I.qf q1
  have g1 : f_Q_cheapest h 180 (iI d) 0 = some (li (chO (zst z d (-1) (-1)) d (z 184).toNat 0 (-1, -1)).1, h1) := g1
  rw [← et, li_e (inn (by omega) (by omega))] at g1
  obtain ⟨h2, g2, q2⟩ := w_cheapest I1 (x := d) (v := 1) (inn (by omega) (by omega)) (inn (by omega) (by omega)) ⟨by omega, hd⟩ (by omega) rfl lI1
  have I2 := I1.qf q2
  have g2 : f_Q_cheapest h1 180 (iI d) 1 = some (li (chO (zst z d (-1) (-1)) d (z 184).toNat 0 (-1, -1)).2, h2) := g2
  rw [← et, li_e (inn (by omega) (by omega))] at g2
  rw [f_Q_follows_272]
  refine Fin3.q g1 ?_
  refine Fin3.q g2 ?_
  by_cases q : d = e
  · refine Fin3.p (by rw [q]) ?_
    exact f_311 I2 hB hk hs hD hN hd hs0 et he (fun g => absurd q g)
  · refine Fin3.n (fun g => q (by have := (iI_eq (by omega) (by omega) (by omega) (by omega)).mp g; omega)) ?_
    obtain ⟨h3, g3, q3⟩ := w_why I2 (x := d) (y := e) (inn (by omega) (by omega)) (inn (by omega) (by omega)) ⟨by omega, hd⟩ ⟨by omega, he⟩ (by omega) rfl rfl
    have g3 : f_Q_why h2 180 (iI d) (iI e) = some (li (rsnS z d e), h3) := g3
    refine Fin3.q g3 ?_
    exact f_311 (I2.qf q3) hB hk hs hD hN hd hs0 et he (fun _ => rfl)
theorem f_215 (I : CI B h (z, ys, c, R)) (hB : B ≤ 50000000) (hk : R.1 1 = true) (hs : R.2.1 1 = z) (hD : DX N z) (hN : N ≤ 1000000) {x : Int} (hx : 0 ≤ x ∧ x < 2147483648) : Fin3 B z R (f_Q_follows_215 180 (iI x) (nowV z) 1 h) := by
  have F := I.wf
  have hn := F.2.1
  rw [f_Q_follows_215]
  refine Fin3.q (wa_1 I) ?_
  by_cases q : z 185 ≤ 0
  · refine Fin3.p (by rw [l64_0]; exact (cle ⟨by omega, by omega⟩ ⟨by omega, by omega⟩).mpr q) ?_
    exact f_518 I hk hs hD hN
  · refine Fin3.n (by rw [l64_0]; exact mt (cle ⟨by omega, by omega⟩ ⟨by omega, by omega⟩).mp q) ?_
    refine Fin3.n (by decide) ?_
    refine Fin3.q (wa_1 I) ?_
    have e32 : (i64 (z 185)).toInt32 = iI (z 185) := i64_32 _
    have n0 : ¬ iI (z 185) = 0 := fun g => by
      rw [lI0] at g
      have := (iI_eq (by omega) (by omega) (by omega) (by omega)).mp g
      omega
    refine Fin3.p (by show ¬ (i64 (z 185)).toInt32 = 0; rw [e32]; exact n0) ?_
    refine Fin3.q (wa_1 I) ?_
    refine Fin3.p (by show ¬ (i64 (z 185)).toInt32 = 0; rw [e32]; exact n0) ?_
    dsimp only
    rw [e32]
    obtain ⟨d, hd⟩ : ∃ d : Nat, x % z 185 = d := ⟨(x % z 185).toNat, by have := Int.emod_nonneg x (by omega : z 185 ≠ 0); omega⟩
    have hd2 : (d : Int) < z 185 := by rw [← hd]; exact Int.emod_lt_of_pos x (by omega)
    have ed : iI x - iI x / iI (z 185) * iI (z 185) = iI d := by rw [modI rfl hx.1 hx.2 (by omega) (by omega), hd]
    obtain ⟨e, he⟩ : ∃ e : Nat, x / 7 % z 185 = e := ⟨(x / 7 % z 185).toNat, by have := Int.emod_nonneg (x / 7) (by omega : z 185 ≠ 0); omega⟩
    have he2 : (e : Int) < z 185 := by rw [← he]; exact Int.emod_lt_of_pos (x / 7) (by omega)
    have ee : iI x / (7 : Int32) - iI x / (7 : Int32) / iI (z 185) * iI (z 185) = iI e := by rw [divI lI7 hx.1 hx.2 (by omega) (by omega), modI rfl (by omega) (by omega) (by omega) (by omega), he]
    rw [ed, ee]
    have hW := F.wall (d := d) (by omega) hd2
    refine Fin3.q (wd_3 I hd2) ?_
    dsimp only
    rw [l64_m]
    by_cases q : z (127 + 6 * d) = -1
    · refine Fin3.p (by rw [q]; exact cmp_s _) ?_
      exact f_272 I hB hk hs hD hN hd2 ⟨fun _ => q, fun _ => rfl⟩ he2
    · refine Fin3.n (mt (ceq ⟨by omega, by omega⟩ ⟨by omega, by omega⟩).mp q) ?_
      exact f_272 I hB hk hs hD hN hd2 ⟨fun g => absurd g (by decide), fun g => absurd g q⟩ he2
theorem f_114 (I : CI B h (z, ys, c, R)) (hB : B ≤ 50000000) (hk : R.1 1 = true) (hs : R.2.1 1 = z) (hD : DX N z) (hN : N ≤ 1000000) {x : Int} (hx : 0 ≤ x ∧ x < 2147483648) {s : Int × Int} (es : s = bsO z (z 185).toNat 0 (-1, rtsZ z)) : Fin3 B z R (f_Q_follows_114 180 (iI x) (nowV z) (i64 s.1) (i64 (rtsZ z)) 1 h) := by
  have F := I.wf
  have hn := F.2.1
  have hr := rts_b F
  have k := best_is F
  rw [← es] at k
  rw [f_Q_follows_114, l64_m]
  rcases k with ⟨e1, e2⟩ | ⟨d, e, hde, he, e1, e2, e3⟩
  · refine Fin3.p (by rw [e1]; exact cmp_s _) ?_
    exact f_215 I hB hk hs hD hN hx
  · have h0 : rsnS z d e = 0 := by
      by_cases q : rsnS z d e = 0
      · exact q
      · have : bsV z d e = -1 := if_neg q
        omega
    have ev : bsV z d e = rtsZ (zsw z d e) := if_pos h0
    have ep : swpZ z d e = zsw z d e := if_pos h0
    have e32 : (i64 (10 * (d : Int) + e)).toInt32 = iI (10 * (d : Int) + e) := i64_32 _
    have eq1 : iI (10 * (d : Int) + e) / (10 : Int32) = iI d := by
      rw [divI lI10 (by omega) (by omega) (by omega) (by omega)]
      congr 1
      omega
    have eq2 : iI (10 * (d : Int) + e) - iI (10 * (d : Int) + e) / (10 : Int32) * (10 : Int32) = iI e := by
      rw [modI lI10 (by omega) (by omega) (by omega) (by omega)]
      congr 1
      omega
    refine Fin3.n (mt (ceq ⟨by omega, by omega⟩ ⟨by omega, by omega⟩).mp (by omega)) ?_
    refine Fin3.n (by decide) ?_
    obtain ⟨h1, g1, q1⟩ := w_bestSwap I (v := 1) (inn (by omega) (by omega)) (by omega) lI1
    have I1 := I.qf q1
    rw [← es] at g1
    have eb : bsR 1 s = s.2 := by
      unfold bsR
      rw [if_neg (by omega), if_neg (by decide)]
    obtain ⟨h9, g9, I9⟩ := w_swap (z := z) (A := (ys, c, R)) I1 (x := d) (y := e) (inn (by omega) (by omega)) (inn (by omega) (by omega)) ⟨by omega, by omega⟩ ⟨by omega, he⟩ (by omega) rfl rfl
    have I9 : CI B h9 (pushA (z, ys, c, R) (swpZ z d e)) := I9
    rw [ep] at I9
    have I9 : CI B h9 (zsw z d e, ysN ys c z, cN c, R) := I9
    have hz : WF (zsw z d e) ∧ s.2 = rtsZ (zsw z d e) := ⟨I9.wf, by rw [e2, ev]⟩
    have hr2 := rts_b hz.1
    rw [eb, hz.2, li_e (inn (by omega) (by omega))] at g1
    refine Fin3.q g1 ?_
    refine Fin3.n (mt (cle ⟨by omega, by omega⟩ ⟨by omega, by omega⟩).mp (by omega)) ?_
    rw [e1, e32, eq2, eq1]
    obtain ⟨h2, g2, q2⟩ := w_why I1 (x := d) (y := e) (inn (by omega) (by omega)) (inn (by omega) (by omega)) ⟨by omega, by omega⟩ ⟨by omega, he⟩ (by omega) rfl rfl
    have g2 : f_Q_why h1 180 (iI d) (iI e) = some (li (rsnS z d e), h2) := g2
    rw [h0] at g2
    have I2 := I1.qf q2
    refine Fin3.q g2 ?_
    refine Fin3.p (by rfl) ?_
    obtain ⟨h3, g3, I3⟩ := w_swap (z := z) (A := (ys, c, R)) I2 (x := d) (y := e) (inn (by omega) (by omega)) (inn (by omega) (by omega)) ⟨by omega, by omega⟩ ⟨by omega, he⟩ (by omega) rfl rfl
    have g3 : f_Q_swap h2 180 (iI d) (iI e) = some (li (rsnS z d e), h3) := g3
    have I3 : CI B h3 (pushA (z, ys, c, R) (swpZ z d e)) := I3
    rw [h0] at g3
    rw [ep] at I3
    refine Fin3.q g3 ?_
    refine Fin3.p (by rfl) ?_
    have I3' : CI B h3 (zsw z d e, ysN ys c z, cN c, R) := I3
    refine Fin3.q (wa_8 I3') ?_
    refine Fin3.p (cmp_s _) ?_
    obtain ⟨h4, g4, I4⟩ := f_und (c14 I) I3
    have hcN := cN_le c (c14 I)
    refine Fin3.q g4 ?_
    refine Fin3.n (i64_nn (by omega) (by omega)) ?_
    rw [f_Q_follows_213]
    exact f_215 I4 hB hk hs hD hN hx
theorem f_54 (I : CI B h (z, ys, c, R)) (hB : B + 42000 ≤ 50000000) (hk : R.1 1 = true) (hs : R.2.1 1 = z) (hD : DX N z) (hN : N ≤ 1000000) {x : Int} (hx : 0 ≤ x ∧ x < 2147483648) : Fin3 (B + 42000) z R (f_Q_follows_54 180 (iI x) (nowV z) 1 h) := by
  have F := I.wf
  have hr := rts_b F
  have hn := F.2.1
  obtain ⟨s, es⟩ : ∃ s, s = bsO z (z 185).toNat 0 (-1, rtsZ z) := ⟨_, rfl⟩
  have k := best_is F
  rw [← es] at k
  rw [f_Q_follows_54]
  obtain ⟨h1, g1, q1⟩ := w_bestSwap I (v := 0) (inn (by omega) (by omega)) (by omega) lI0
  have I1 := I.qf q1
  rw [← es] at g1
  have eb : bsR 0 s = s.1 := by
    unfold bsR
    by_cases q : s.1 = -1
    · rw [if_pos q, q]
    · rw [if_neg q, if_pos rfl]
  have rs : -1 ≤ s.1 ∧ s.1 ≤ 1000 := by
    rcases k with ⟨e1, e2⟩ | ⟨d, e, hde, he, e1, e2, e3⟩ <;> omega
  rw [eb, li_e (inn (by omega) (by omega))] at g1
  refine Fin3.q g1 ?_
  refine Fin3.q (wa_8 I1) ?_
  refine Fin3.n (by decide) ?_
  obtain ⟨v, hv⟩ : ∃ v : Int, v = 1 + x % 60 := ⟨_, rfl⟩
  have ev : (1 : Int32) + (iI x - iI x / (60 : Int32) * (60 : Int32)) = iI v := by
    rw [modI lI60 hx.1 hx.2 (by omega) (by omega), lI1, iI_add, hv]
  have hv1 : 1 ≤ v ∧ v ≤ 60 := by omega
  dsimp only
  rw [ev]
  obtain ⟨h2, g2, I2⟩ := w_days (z := z) (A := (ys, c, R)) I1 (v := v) (inn (by omega) (by omega)) hv1 rfl
  have I2 : CI (B + 42000) h2 (pushA (z, ys, c, R) (zdy z v.toNat)) := I2
  have hm : 0 ≤ ((v.toNat : Nat) : Int) * rtsZ z ∧ ((v.toNat : Nat) : Int) * rtsZ z ≤ 420000 := by
    rw [show ((v.toNat : Nat) : Int) = v by omega]
    refine ⟨Int.mul_nonneg (by omega) hr.1, ?_⟩
    calc v * rtsZ z ≤ 60 * rtsZ z := Int.mul_le_mul_of_nonneg_right hv1.2 hr.1
      _ ≤ 420000 := by omega
  rw [li_e (inn (by omega) (by omega))] at g2
  refine Fin3.q g2 ?_
  refine Fin3.p ?_ ?_
  · show lg_cmp (i64 (((v.toNat : Nat) : Int) * rtsZ z)) ((iI v).toInt64 * i64 (rtsZ z)) = 0
    rw [ix64 (x := v) (by omega) (by omega), i64_m, show ((v.toNat : Nat) : Int) = v by omega]
    exact cmp_s _
  obtain ⟨h3, g3, I3⟩ := f_und (c14 I) I2
  have hcN := cN_le c (c14 I)
  refine Fin3.q g3 ?_
  refine Fin3.n (i64_nn (by omega) (by omega)) ?_
  exact f_114 I3 hB hk hs hD hN hx es
theorem CI.y0 {ys' : Nat → Nat → Int} (I : CI B h (z, ys', 0, R)) : CI B h (z, ys, 0, R) := by
  obtain ⟨i1, ⟨⟨x, p1, p2, p3, p4, -⟩, -⟩, i3⟩ := I
  exact ⟨i1, ⟨⟨x, p1, p2, p3, p4, fun j hj => absurd hj (Nat.not_lt_zero j)⟩, fun j hj => absurd hj (Nat.not_lt_zero j)⟩, i3⟩
def savA (A : AS) : AS := (A.1, A.2.1, 0, (fun k => if k = 1 then true else A.2.2.2.1 k), (fun k => if k = 1 then A.1 else A.2.2.2.2.1 k), A.2.2.2.2.2.1, A.2.2.2.2.2.2)
theorem w_follows {A : AS} (I : CI B h A) (X : XA N A) (hN : N ≤ 1000000) (hB : B + 42000 ≤ 50000000) {x : Int} (hx : 0 ≤ x ∧ x < 2147483648) : ∃ h', f_Q_follows h 180 (iI x) = some (1, h') ∧ CI (B + 42000) h' (savA A) := by
  obtain ⟨z, ys, c, kb, ks, t, n⟩ := A
  have hday := X.2.1.2
  have hday : 0 ≤ z 186 ∧ z 186 ≤ N := hday
  obtain ⟨h1, g1, I1⟩ := w_save I (s := 1) (by decide) lI1
  have fin : Fin3 (B + 42000) z ((fun k => if k = 1 then true else kb k), (fun k => if k = 1 then z else ks k), t, n) (f_Q_follows h 180 (iI x)) := by
    unfold f_Q_follows
    refine Fin3.q (w_now I) ?_
    refine Fin3.q g1 ?_
    refine Fin3.q (w_about I1 (v := 10) (inn (by omega) (by omega)) (by omega) lI10) ?_
    refine Fin3.p (cmp_s _) ?_
    have e6 : (iI x).toInt64 = li x := rfl
    obtain ⟨h2, g2, q2⟩ := w_simulate I1 (by omega) (x := (iI x).toInt64) (v := 6) (inn (by omega) (by omega)) (by omega) lI6
    have I2 := I1.qf q2
    obtain ⟨h3, g3, q3⟩ := w_simulate I2 (by omega) (x := (iI x).toInt64) (v := 6) (inn (by omega) (by omega)) (by omega) lI6
    have I3 := I2.qf q3
    refine Fin3.q g2 ?_
    refine Fin3.q g3 ?_
    refine Fin3.p (cmp_s _) ?_
    refine Fin3.q (w_now I3) ?_
    refine Fin3.p (cmp_s _) ?_
    exact f_54 I3 hB rfl rfl X.2.1 hN hx
  obtain ⟨h', ys', e1, e2⟩ := fin
  exact ⟨h', e1, e2.y0⟩
end FOLLOWS2
