/-! follows: what would be is so when it is done; what is taken back is as it was -/
def Fin3 (B : Int) (z : Nat → Int) (R : (Nat → Bool) × (Nat → Nat → Int) × (Nat → Int) × Nat) (r : Option (Int32 × HP)) : Prop := ∃ h' ys', r = some ((1 : Int32), h') ∧ CI B h' (z, ys', 0, R)
section FOLLOWS
variable {h : HP} {z w : Nat → Int} {B : Int} {R : (Nat → Bool) × (Nat → Nat → Int) × (Nat → Int) × Nat} {ys : Nat → Nat → Int} {c d : Nat} {N : Int}
theorem Fin3.q {α : Type} {o : Option (α × HP)} {v : α} {h : HP} {f : α × HP → Option (Int32 × HP)} (e : o = some (v, h)) (k : Fin3 B z R (f (v, h))) : Fin3 B z R (o.bind f) := by rw [e, Option.bind_some]; exact k
theorem Fin3.p {x y : Option (Int32 × HP)} {c : Prop} [Decidable c] (h : c) (k : Fin3 B z R x) : Fin3 B z R (if c then x else y) := by rw [if_pos h]; exact k
theorem Fin3.n {x y : Option (Int32 × HP)} {c : Prop} [Decidable c] (h : ¬ c) (k : Fin3 B z R y) : Fin3 B z R (if c then x else y) := by rw [if_neg h]; exact k
theorem Fin3.e {x y : Option (Int32 × HP)} (h : x = y) (k : Fin3 B z R y) : Fin3 B z R x := by rw [h]; exact k
theorem c14 (I : CI B h (z, ys, c, R)) : c ≤ 14 := by
  obtain ⟨⟨x, P⟩, -⟩ := I.2.1
  exact P.1
theorem cN_pos (c : Nat) : ¬ cN c = 0 := by unfold cN; split <;> omega
theorem ysN_top (hc : c ≤ 14) : ysN ys c z (cN c - 1) = z := by
  unfold ysN cN
  by_cases q : c < 14
  · rw [if_pos q, if_pos q, if_pos (by omega)]
  · rw [if_neg q, if_neg q, if_pos (by omega)]
/-- what lies below the last one stays there -/
theorem ysN_two (hc : c ≤ 14) (h0 : ¬ c = 0) (ht : ys (c - 1) = w) : ¬ cN c - 1 = 0 ∧ ysN ys c z (cN c - 1 - 1) = w := by
  unfold ysN cN
  by_cases q : c < 14
  · rw [if_pos q, if_pos q, if_neg (by omega)]
    exact ⟨by omega, by rw [show c + 1 - 1 - 1 = c - 1 by omega]; exact ht⟩
  · rw [if_neg q, if_neg q, if_neg (by omega)]
    exact ⟨by omega, by rw [show 14 - 1 - 1 + 1 = c - 1 by omega]; exact ht⟩
theorem f_und {z' : Nat → Int} (hc : c ≤ 14) (I : CI B h (pushA (z, ys, c, R) z')) : ∃ h', f_Q_undo h 180 = some (i64 ((cN c - 1 : Nat) : Int), h') ∧ CI B h' (z, ysN ys c z, cN c - 1, R) := by
  have hN := cN_le c hc
  obtain ⟨h', g1, g2⟩ := w_undo (z := z') (ys := ysN ys c z) (c := cN c) (A3 := R) I (cN_pos c)
  rw [ysN_top hc] at g2
  rw [li_e (inn (by omega) (by omega))] at g1
  exact ⟨h', g1, g2⟩
theorem f_518 (I : CI B h (z, ys, c, R)) (hk : R.1 1 = true) (hs : R.2.1 1 = z) (hD : DX N z) (hN : N ≤ 1000000) : Fin3 B z R (f_Q_follows_518 180 (nowV z) 1 h) := by
  rw [f_Q_follows_518]
  refine Fin3.n (by decide) ?_
  refine Fin3.q (w_now I) ?_
  refine Fin3.p (cmp_s _) ?_
  obtain ⟨h1, g1, I1⟩ := w_restore (z := z) (ys := ys) (c := c) (kb := R.1) (ks := R.2.1) (t := R.2.2.1) (n := R.2.2.2) I (s := 1) (by decide) hk lI1
  rw [hs] at g1 I1
  refine Fin3.q g1 ?_
  have hday := hD.2
  refine Fin3.n (fun q => ?_) ?_
  · have q := cmp_lt.mp q
    have q : (li (z 186)).toInt < 0 := q
    rw [li_t (inn (by omega) (by omega))] at q
    omega
  refine Fin3.q (w_now I1) ?_
  refine Fin3.p (cmp_s _) ?_
  refine Fin3.q (w_undo_s (z := z) (ys := ys) (c := 0) (A3 := R) I1 rfl) ?_
  refine Fin3.p (cmp_s _) ?_
  exact ⟨h1, ys, rfl, I1⟩
theorem f_511 (I : CI B h (z, ys, c, R)) (hk : R.1 1 = true) (hs : R.2.1 1 = z) (hD : DX N z) (hN : N ≤ 1000000) : Fin3 B z R (f_Q_follows_511 180 (nowV z) h) := by
  rw [f_Q_follows_511, f_Q_follows_516]
  exact f_518 I hk hs hD hN
theorem f_478 (I : CI B h (z, ys, c, R)) (hk : R.1 1 = true) (hs : R.2.1 1 = z) (hD : DX N z) (hN : N ≤ 1000000) (hd : (d : Int) < z 185) {s : Int32} {at_ least : Int} (h1 : z (127 + 6 * d) ≠ -1 → (¬ at_ = -1) ∧ least ≤ rentZ z d) (hs0 : s = 0 ↔ z (127 + 6 * d) = -1) (r1 : Rg at_) (r2 : Rg least) : Fin3 B z R (f_Q_follows_478 180 (nowV z) 1 (iI d) s (i64 at_) (i64 least) h) := by
  have F := I.wf
  have hn := F.2.1
  rw [f_Q_follows_478]
  refine Fin3.n (by decide) ?_
  by_cases q : s = 0
  · refine Fin3.p q ?_
    exact f_511 I hk hs hD hN
  · refine Fin3.n q ?_
    have g := h1 (fun e => q (hs0.mpr e))
    have gr := rent_b F (d := d) (by omega)
    rw [l64_m]
    refine Fin3.n (mt (ceq r1 ⟨by omega, by omega⟩).mp g.1) ?_
    refine Fin3.q (wd_7 I hd) ?_
    refine Fin3.n (mt (cgt r2 ⟨by omega, by omega⟩).mp (by omega)) ?_
    exact f_511 I hk hs hD hN
theorem i64_nn {x : Int} (h1 : 0 ≤ x) (h2 : x ≤ 1000000) : ¬ lg_cmp (i64 x) (0 : Int64) < 0 := by
  rw [l64_0]
  exact mt (clt ⟨by omega, by omega⟩ ⟨by omega, by omega⟩).mp (by omega)
/-- the place is taken: u is the fair without d -/
theorem f_411 {u : Nat → Int} (eu : u = zst z d (-1) (-1)) (F : WF z) (I : CI B h (u, ys, c, R)) (hst : ¬ z (127 + 6 * d) = -1 → ¬ c = 0 ∧ ys (c - 1) = z) (hk : R.1 1 = true) (hs : R.2.1 1 = z) (hD : DX N z) (hN : N ≤ 1000000) (hd : (d : Int) < z 185) {s : Int32} (hs0 : s = 0 ↔ z (127 + 6 * d) = -1) {W M : Nat} (hW : (W : Int) < z 184) (hM : (M : Int) < z (31 * W)) (hr : rifZ u d W M ≠ -1) (hmin : z (127 + 6 * d) ≠ -1 → rifZ u d W M ≤ rentZ z d) :
    Fin3 B z R (f_Q_follows_411 180 (nowV z) (iI d) s (i64 (100 * (W : Int) + M)) (i64 (rifZ u d W M)) h) := by
  have hn := F.2.1
  have hw := F.1
  have hL := F.2.2.2.1 W (by omega)
  have Fu := I.wf
  have u185 : u 185 = z 185 := by rw [eu]; exact zst_n _ _ _ _ (by omega) (by omega)
  have u184 : u 184 = z 184 := by rw [eu]; exact zst_n _ _ _ _ (by omega) (by omega)
  have uL : u (31 * W) = z (31 * W) := by rw [eu]; exact zst_n _ _ _ _ (by omega) (by omega)
  have e32 : (i64 (100 * (W : Int) + M)).toInt32 = iI (100 * (W : Int) + M) := i64_32 _
  have eq1 : iI (100 * (W : Int) + M) / (100 : Int32) = iI W := by
    rw [divI lI100 (by omega) (by omega) (by omega) (by omega)]
    congr 1
    omega
  have eq2 : iI (100 * (W : Int) + M) - iI (100 * (W : Int) + M) / (100 : Int32) * (100 : Int32) = iI M := by
    rw [modI lI100 (by omega) (by omega) (by omega) (by omega)]
    congr 1
    omega
  have h0 : rsnP u d W M = 0 := by
    by_cases q : rsnP u d W M = 0
    · exact q
    · exact absurd (if_neg q) hr
  have erif : rifZ u d W M = rentZ (zst u d W M) d := if_pos h0
  have ep : plcZ u d W M = zst u d W M := if_pos h0
  rw [f_Q_follows_411, e32, eq2, eq1]
  obtain ⟨h1, g1, I1⟩ := w_place (z := u) (A := (ys, c, R)) I (x := d) (y := W) (v := M) (inn (by omega) (by omega)) (inn (by omega) (by omega)) (inn (by omega) (by omega)) ⟨by omega, by omega⟩ ⟨by omega, by omega, by omega, by rw [show ((W : Int)).toNat = W by omega, uL]; exact hM⟩ rfl rfl rfl
  have g1 : f_Q_place h 180 (iI d) (iI W) (iI M) = some (li (rsnP u d W M), h1) := g1
  have I1 : CI B h1 (pushA (u, ys, c, R) (plcZ u d W M)) := I1
  rw [h0] at g1
  rw [ep] at I1
  refine Fin3.q g1 ?_
  refine Fin3.p (by rfl) ?_
  have I1' : CI B h1 (zst u d W M, ysN ys c u, cN c, R) := I1
  refine Fin3.q (wd_7 I1' (d := d) (by rw [zst_n _ _ _ _ (by omega) (by omega), u185]; exact hd)) ?_
  rw [erif]
  refine Fin3.p (cmp_s _) ?_
  obtain ⟨h2, g2, I2⟩ := f_und (c14 I) I1
  have hcN := cN_le c (c14 I)
  refine Fin3.q g2 ?_
  refine Fin3.n (i64_nn (by omega) (by omega)) ?_
  have gr := rent_b (z := zst u d W M) I1'.wf (d := d) (by omega)
  have tail : ∀ {h : HP} {ys : Nat → Nat → Int} {c : Nat}, CI B h (z, ys, c, R) → Fin3 B z R (f_Q_follows_471 180 (nowV z) (iI d) s (i64 (100 * (W : Int) + M)) (i64 (rentZ (zst u d W M) d)) h) := by
    intro h ys c J
    rw [f_Q_follows_471, f_Q_follows_476]
    exact f_478 J hk hs hD hN hd (fun q => ⟨by omega, by rw [← erif]; exact hmin q⟩) hs0 ⟨by omega, by omega⟩ ⟨by omega, by omega⟩
  by_cases q : s = 0
  · refine Fin3.p q ?_
    have ez : u = z := by rw [eu]; exact zst_id F (by omega) hd (hs0.mp q)
    rw [ez] at I2 tail ⊢
    exact tail I2
  · refine Fin3.n q ?_
    obtain ⟨t0, t1⟩ := hst (fun e => q (hs0.mpr e))
    obtain ⟨t2, t3⟩ := ysN_two (z := u) (c14 I) t0 t1
    obtain ⟨h3, g3, I3⟩ := w_undo (z := u) (ys := ysN ys c u) (c := cN c - 1) (A3 := R) I2 t2
    rw [t3] at I3
    rw [li_e (inn (by omega) (by omega))] at g3
    refine Fin3.q g3 ?_
    refine Fin3.n (i64_nn (by omega) (by omega)) ?_
    exact tail I3
theorem f_348 (I : CI B h (z, ys, c, R)) (hB : B ≤ 50000000) (hk : R.1 1 = true) (hs : R.2.1 1 = z) (hD : DX N z) (hN : N ≤ 1000000) (hd : (d : Int) < z 185) {s : Int32} (hs0 : s = 0 ↔ z (127 + 6 * d) = -1) {t : Int × Int} (et : t = chO (zst z d (-1) (-1)) d (z 184).toNat 0 (-1, -1)) : Fin3 B z R (f_Q_follows_348 180 (nowV z) (iI d) s (i64 t.1) (i64 t.2) 1 h) := by
  have F := I.wf
  have hn := F.2.1
  have hw := F.1
  obtain ⟨k1, k2⟩ := cheap_is F (d := d) (by omega)
  rw [← et] at k1 k2
  have u184 : zst z d (-1) (-1) 184 = z 184 := zst_n _ _ _ _ (by omega) (by omega)
  have k3 : z (127 + 6 * d) ≠ -1 → t.2 ≠ -1 ∧ t.2 ≤ rentZ z d := by
    intro q
    have hW := F.wall (d := d) (by omega) hd
    have hS := F.2.2.2.2.2.2.1 d (by omega) hd
    have hf := (F.2.2.2.2.2.1 d (by omega)).2.1 hd
    have o := own_place F (d := d) (by omega) hd q
    have e := k2 (z (127 + 6 * d)).toNat (z (128 + 6 * d)).toNat (by omega) (by omega)
    unfold CL at e
    rw [show (((z (127 + 6 * d)).toNat : Nat) : Int) = z (127 + 6 * d) by omega, show (((z (128 + 6 * d)).toNat : Nat) : Int) = z (128 + 6 * d) by omega, o] at e
    have gr := rent_b F (d := d) (by omega)
    exact e (by omega)
  rw [f_Q_follows_348, l64_m]
  rcases k1 with ⟨e1, e2⟩ | ⟨W, M, hW, hM, e1, e2, e3⟩
  · refine Fin3.p (by rw [e1]; exact cmp_s _) ?_
    have hz : z (127 + 6 * d) = -1 := by
      by_cases q : z (127 + 6 * d) = -1
      · exact q
      · exact absurd e2 (k3 q).1
    rw [e1, e2]
    exact f_478 I hk hs hD hN hd (fun q => absurd hz q) hs0 ⟨by omega, by omega⟩ ⟨by omega, by omega⟩
  · rw [u184] at hW
    have uL : zst z d (-1) (-1) (31 * W) = z (31 * W) := zst_n _ _ _ _ (by omega) (by omega)
    rw [uL] at hM
    have hL := F.2.2.2.1 W (by omega)
    rw [e1, e2]
    refine Fin3.n (mt (ceq ⟨by omega, by omega⟩ ⟨by omega, by omega⟩).mp (by omega)) ?_
    refine Fin3.n (by decide) ?_
    have e32 : (i64 (100 * (W : Int) + M)).toInt32 = iI (100 * (W : Int) + M) := i64_32 _
    have eq1 : iI (100 * (W : Int) + M) / (100 : Int32) = iI W := by
      rw [divI lI100 (by omega) (by omega) (by omega) (by omega)]
      congr 1
      omega
    have eq2 : iI (100 * (W : Int) + M) - iI (100 * (W : Int) + M) / (100 : Int32) * (100 : Int32) = iI M := by
      rw [modI lI100 (by omega) (by omega) (by omega) (by omega)]
      congr 1
      omega
    rw [e32, eq2, eq1]
    obtain ⟨h1, g1, q1⟩ := w_rentIf I (x := d) (y := W) (v := M) (inn (by omega) (by omega)) (inn (by omega) (by omega)) (inn (by omega) (by omega)) ⟨by omega, hd⟩ ⟨by omega, hW, by omega, by rw [show ((W : Int)).toNat = W by omega]; exact hM⟩ rfl rfl rfl
    have g1 : f_Q_rentIf h 180 (iI d) (iI W) (iI M) = some (li (rifZ (zst z d (-1) (-1)) d W M), h1) := g1
    have I1 := I.qf q1
    have Fu : rifZ (zst z d (-1) (-1)) d W M ≤ 700 ∧ -1 ≤ rifZ (zst z d (-1) (-1)) d W M := by
      have Fz : WF (zst z d (-1) (-1)) := wf_zst F (by omega) hd (Or.inl ⟨rfl, rfl⟩)
      have := rif_b Fz (d := d) (by omega) (by rw [zst_n _ _ _ _ (by omega) (by omega)]; exact hd) (w := W) (f := M) ⟨by omega, by rw [u184]; exact hW⟩ (by omega)
      exact ⟨this.2, this.1⟩
    rw [li_e (inn (by omega) (by omega))] at g1
    refine Fin3.q g1 ?_
    refine Fin3.p (cmp_s _) ?_
    by_cases q : s = 0
    · refine Fin3.p q ?_
      have hz := hs0.mp q
      have ez : zst z d (-1) (-1) = z := zst_id F (by omega) hd hz
      exact f_411 (u := zst z d (-1) (-1)) rfl F (by rw [ez]; exact I1) (fun g => absurd hz g) hk hs hD hN hd hs0 hW hM e3 (fun g => absurd hz g)
    · refine Fin3.n q ?_
      have hz : ¬ z (127 + 6 * d) = -1 := fun e => q (hs0.mpr e)
      obtain ⟨h2, g2, I2⟩ := w_leave (z := z) (A := (ys, c, R)) I1 (x := d) (inn (by omega) (by omega)) ⟨by omega, hd⟩ hz rfl
      have g2 : f_Q_leave h1 180 (iI d) = some (li (z (129 + 6 * d)), h2) := g2
      have I2 : CI B h2 (zst z d (-1) (-1), ysN ys c z, cN c, R) := I2
      have ho : 0 ≤ z (129 + 6 * d) ∧ z (129 + 6 * d) ≤ B ∧ (z 185 ≤ (d : Int) → z (129 + 6 * d) = 0) := I.1.2.2.2.1 d (by omega)
      rw [li_e ⟨by omega, by omega⟩] at g2
      refine Fin3.q g2 ?_
      have e129 : zst z d (-1) (-1) (129 + 6 * d) = z (129 + 6 * d) := zst_n _ _ _ _ (by omega) (by omega)
      have g3 := wd_8 I2 hB (d := d) (by rw [zst_n _ _ _ _ (by omega) (by omega)]; exact hd)
      rw [e129] at g3
      refine Fin3.q g3 ?_
      refine Fin3.p (cmp_s _) ?_
      exact f_411 (u := zst z d (-1) (-1)) rfl F I2 (fun _ => ⟨cN_pos c, ysN_top (c14 I)⟩) hk hs hD hN hd hs0 hW hM e3 (fun g => by rw [← e2]; exact (k3 g).2)
end FOLLOWS
