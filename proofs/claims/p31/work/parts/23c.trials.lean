/-! the questions that try something on the trial fair: what they answer, and that nothing else changes -/
noncomputable def chpF (z : Nat → Int) (d : Nat) (v : Int) : Int := if v = 0 then (chO (zst z d (-1) (-1)) d (z 184).toNat 0 (-1, -1)).1 else (chO (zst z d (-1) (-1)) d (z 184).toNat 0 (-1, -1)).2
section TRIALS
variable {h : HP} {z : Nat → Int} {B : Int} {t : Nat → Int} {n : Nat}
theorem k_rentIf (RA : RepA h 182 0 184 z) (K : OKz B z) {x : Int} (hx : InR x) {y : Int} (hy : InR y) {v : Int} (hv : InR v) (cd : 0 ≤ x ∧ x < z 185) (cw : 0 ≤ y ∧ y < z 184 ∧ 0 ≤ v ∧ v < z (31 * y.toNat)) : ∃ h1, f_F_rentIf h 180 (iI x) (iI y) (iI v) = some (.inl (some (.int (iI (rifZ (zst z x.toNat (-1) (-1)) x.toNat y v)))), h1) ∧ QF h h1 := by
  obtain ⟨S, R, RP, F⟩ := id RA
  obtain ⟨⟨w1, w2⟩, ⟨n1, n2⟩, -⟩ := id F
  have rd := s_hasDealer R F hx
  have rw_ := s_hasMetre R S.bs F hy hv
  rw [if_pos cd] at rd
  rw [if_pos cw] at rw_
  obtain ⟨d, h2, rfl⟩ : ∃ d : Nat, (d : Int) < z 185 ∧ x = d := ⟨x.toNat, by omega, by omega⟩
  have hd : d < 10 := by omega
  obtain ⟨h1, g1, g2, g3, g4⟩ := a_become S3 B0 (by decide) R F
  obtain ⟨h2', z', k1, k2, k3, k4⟩ := c_rif g2 hd h2 (w := y) (f := v) ⟨cw.1, cw.2.1⟩ cw.2.2
  refine ⟨h2', ?_, (QF.tr (fun i hi => by rw [k4 i hi, g4 i hi]))⟩
  show f_F_rentIf h 180 (iI d) (iI y) (iI v) = some (.inl (some (.int (iI (rifZ (zst z d (-1) (-1)) d y v)))), h2')
  unfold f_F_rentIf
  rw [f00, rd, Option.bind_some, if_neg (by decide), rw_, Option.bind_some, if_neg (by decide), f_F_rentIf_34, if_neg (by decide), f183, f00, g1, Option.bind_some, k1, Option.bind_some]
theorem k_rentIf_i (RA : RepA h 182 0 184 z) (K : OKz B z) {x : Int} (hx : InR x) {y : Int} (hy : InR y) {v : Int} (hv : InR v) (cd : ¬ (0 ≤ x ∧ x < z 185)) : f_F_rentIf h 180 (iI x) (iI y) (iI v) = some (.inr "java/lang/IndexOutOfBoundsException", h) := by
  obtain ⟨S, R, RP, F⟩ := id RA
  obtain ⟨⟨w1, w2⟩, ⟨n1, n2⟩, -⟩ := id F
  have rd := s_hasDealer R F hx
  have rw_ := s_hasMetre R S.bs F hy hv
  rw [if_neg cd] at rd
  show f_F_rentIf h 180 (iI x) (iI y) (iI v) = some (.inr "java/lang/IndexOutOfBoundsException", h)
  unfold f_F_rentIf
  rw [f00, rd, Option.bind_some, if_pos rfl, f_F_rentIf_33, f_F_rentIf_34, if_pos rfl]
theorem k_cheapest (RA : RepA h 182 0 184 z) (K : OKz B z) {x : Int} (hx : InR x) {v : Int} (hv : InR v) (cw : 0 ≤ x ∧ x < z 185) (c : 0 ≤ v ∧ v ≤ 1) : ∃ h1, f_F_cheapest h 180 (iI x) (iI v) = some (.inl (some (.int (iI (chpF z x.toNat v)))), h1) ∧ QF h h1 := by
  obtain ⟨S, R, RP, F⟩ := id RA
  obtain ⟨⟨w1, w2⟩, ⟨n1, n2⟩, -⟩ := id F
  have r := in32 h hv ⟨by decide, by decide⟩ ⟨by decide, by decide⟩ lI0 lI1
  have rw_ := s_hasDealer R F hx
  rw [if_pos cw] at rw_
  rw [if_pos c] at r
  obtain ⟨d, h2, rfl⟩ : ∃ d : Nat, (d : Int) < z 185 ∧ x = d := ⟨x.toNat, by omega, by omega⟩
  have hd : d < 10 := by omega
  have s0 : okC (-1, -1) := ⟨⟨fun _ => rfl, fun _ => rfl⟩, ⟨by decide, by decide⟩, ⟨by decide, by decide⟩⟩
  obtain ⟨h1, g1, g2, g3, g4⟩ := a_become S3 B0 (by decide) R F
  have R1 : RepS h1 0 z := R.fr (fun i _ i2 => g4 i (fun q => by unfold own at q; omega))
  obtain ⟨h2', k1, k2⟩ := c_ch45 F hd h2 (k := v) (by omega) (z 184).toNat 0 4096 (-1, -1) h1 z (by omega) (by omega) s0 R1 g2 rfl
  refine ⟨h2', ?_, (QF.tr (fun i hi => by rw [k2 i hi, g4 i hi]))⟩
  show f_F_cheapest h 180 (iI d) (iI v) = some (.inl (some (.int (iI (if v = 0 then (chO (zst z d (-1) (-1)) d (z 184).toNat 0 (-1, -1)).1 else (chO (zst z d (-1) (-1)) d (z 184).toNat 0 (-1, -1)).2)))), h2')
  unfold f_F_cheapest
  rw [f00, rw_, Option.bind_some, if_neg (by decide), r, Option.bind_some, if_neg (by decide), f183, g1, Option.bind_some, lI0, m1I]
  exact k1
theorem k_cheapest_a (RA : RepA h 182 0 184 z) (K : OKz B z) {x : Int} (hx : InR x) {v : Int} (hv : InR v) (cw : 0 ≤ x ∧ x < z 185) (c : ¬ (0 ≤ v ∧ v ≤ 1)) : f_F_cheapest h 180 (iI x) (iI v) = some (.inr "java/lang/IllegalArgumentException", h) := by
  obtain ⟨S, R, RP, F⟩ := id RA
  obtain ⟨⟨w1, w2⟩, ⟨n1, n2⟩, -⟩ := id F
  have r := in32 h hv ⟨by decide, by decide⟩ ⟨by decide, by decide⟩ lI0 lI1
  have rw_ := s_hasDealer R F hx
  rw [if_pos cw] at rw_
  rw [if_neg c] at r
  show f_F_cheapest h 180 (iI x) (iI v) = some (.inr "java/lang/IllegalArgumentException", h)
  unfold f_F_cheapest
  rw [f00, rw_, Option.bind_some, if_neg (by decide), r, Option.bind_some, if_pos rfl]
theorem k_cheapest_i (RA : RepA h 182 0 184 z) (K : OKz B z) {x : Int} (hx : InR x) {v : Int} (hv : InR v) (cw : ¬ (0 ≤ x ∧ x < z 185)) : f_F_cheapest h 180 (iI x) (iI v) = some (.inr "java/lang/IndexOutOfBoundsException", h) := by
  obtain ⟨S, R, RP, F⟩ := id RA
  obtain ⟨⟨w1, w2⟩, ⟨n1, n2⟩, -⟩ := id F
  have r := in32 h hv ⟨by decide, by decide⟩ ⟨by decide, by decide⟩ lI0 lI1
  have rw_ := s_hasDealer R F hx
  rw [if_neg cw] at rw_
  show f_F_cheapest h 180 (iI x) (iI v) = some (.inr "java/lang/IndexOutOfBoundsException", h)
  unfold f_F_cheapest
  rw [f00, rw_, Option.bind_some, if_pos rfl]
theorem k_why (RA : RepA h 182 0 184 z) (K : OKz B z) {x : Int} (hx : InR x) {y : Int} (hy : InR y) (cd : 0 ≤ x ∧ x < z 185) (ce : 0 ≤ y ∧ y < z 185) (cxy : ¬ x = y) : ∃ h1, f_F_why h 180 (iI x) (iI y) = some (.inl (some (.int (iI (rsnS z x.toNat y.toNat)))), h1) ∧ QF h h1 := by
  obtain ⟨S, R, RP, F⟩ := id RA
  obtain ⟨⟨w1, w2⟩, ⟨n1, n2⟩, -⟩ := id F
  have rd := s_hasDealer R F hx
  have re := s_hasDealer R F hy
  rw [if_pos cd] at rd
  rw [if_pos ce] at re
  obtain ⟨d, h2, rfl⟩ : ∃ d : Nat, (d : Int) < z 185 ∧ x = d := ⟨x.toNat, by omega, by omega⟩
  obtain ⟨e, h3', rfl⟩ : ∃ d : Nat, (d : Int) < z 185 ∧ y = d := ⟨y.toNat, by omega, by omega⟩
  have hd : d < 10 := by omega
  have he : e < 10 := by omega
  have hde : d ≠ e := by omega
  have cxy' : ¬ iI (d : Int) = iI (e : Int) := fun q => cxy ((iI_eq (by omega) (by omega) (by omega) (by omega)).mp q)
  refine ⟨h, ?_, (QF.refl h)⟩
  show f_F_why h 180 (iI d) (iI e) = some (.inl (some (.int (iI (rsnS z d e)))), h)
  unfold f_F_why
  rw [f00, rd, Option.bind_some, if_neg (by decide), re, Option.bind_some, if_neg (by decide), f_F_why_33, if_neg (by decide), if_neg cxy', f_F_why_46, if_neg (by decide), f0, a_swapR S R F hd h2 he h3' hde, Option.bind_some]
theorem k_why_a (RA : RepA h 182 0 184 z) (K : OKz B z) {x : Int} (hx : InR x) {y : Int} (hy : InR y) (cd : 0 ≤ x ∧ x < z 185) (ce : 0 ≤ y ∧ y < z 185) (cxy : x = y) : f_F_why h 180 (iI x) (iI y) = some (.inr "java/lang/IllegalArgumentException", h) := by
  obtain ⟨S, R, RP, F⟩ := id RA
  obtain ⟨⟨w1, w2⟩, ⟨n1, n2⟩, -⟩ := id F
  have rd := s_hasDealer R F hx
  have re := s_hasDealer R F hy
  rw [if_pos cd] at rd
  rw [if_pos ce] at re
  skip
  show f_F_why h 180 (iI x) (iI y) = some (.inr "java/lang/IllegalArgumentException", h)
  unfold f_F_why
  rw [f00, rd, Option.bind_some, if_neg (by decide), re, Option.bind_some, if_neg (by decide), f_F_why_33, if_neg (by decide), if_pos (by rw [cxy]), f_F_why_46, if_pos rfl]
theorem k_why_i (RA : RepA h 182 0 184 z) (K : OKz B z) {x : Int} (hx : InR x) {y : Int} (hy : InR y) (cd : ¬ (0 ≤ x ∧ x < z 185)) : f_F_why h 180 (iI x) (iI y) = some (.inr "java/lang/IndexOutOfBoundsException", h) := by
  obtain ⟨S, R, RP, F⟩ := id RA
  obtain ⟨⟨w1, w2⟩, ⟨n1, n2⟩, -⟩ := id F
  have rd := s_hasDealer R F hx
  have re := s_hasDealer R F hy
  rw [if_neg cd] at rd
  show f_F_why h 180 (iI x) (iI y) = some (.inr "java/lang/IndexOutOfBoundsException", h)
  unfold f_F_why
  rw [f00, rd, Option.bind_some, if_pos rfl, f_F_why_32, f_F_why_33, if_pos rfl]
theorem k_bestSwap (RA : RepA h 182 0 184 z) (K : OKz B z) {v : Int} (hv : InR v) (c : 0 ≤ v ∧ v ≤ 1) : ∃ h1, f_F_bestSwap h 180 (iI v) = some (.inl (some (.int (iI (bsR v (bsO z (z 185).toNat 0 (-1, rtsZ z)))))), h1) ∧ QF h h1 := by
  obtain ⟨S, R, RP, F⟩ := id RA
  obtain ⟨⟨w1, w2⟩, ⟨n1, n2⟩, -⟩ := id F
  have r := in32 h hv ⟨by decide, by decide⟩ ⟨by decide, by decide⟩ lI0 lI1
  rw [if_pos c] at r
  have hr := rts_b F
  have s0 : okB2 (-1, rtsZ z) := ⟨⟨by show (-1 : Int) ≤ -1; omega, by show (-1 : Int) ≤ 1000; omega⟩, hr⟩
  obtain ⟨h1, k1, k2⟩ := c_bs22 F (k := v) (by omega) (z 185).toNat 0 4096 (-1, rtsZ z) h (by omega) (by omega) s0 R
  refine ⟨h1, ?_, (QF.tr k2)⟩
  show f_F_bestSwap h 180 (iI v) = some (.inl (some (.int (iI (bsR v (bsO z (z 185).toNat 0 (-1, rtsZ z)))))), h1)
  unfold f_F_bestSwap
  rw [r, Option.bind_some, if_neg (by decide), f0, a_rents S R RP F, Option.bind_some, lI0, m1I]
  exact k1
theorem k_bestSwap_a (RA : RepA h 182 0 184 z) (K : OKz B z) {v : Int} (hv : InR v) (c : ¬ (0 ≤ v ∧ v ≤ 1)) : f_F_bestSwap h 180 (iI v) = some (.inr "java/lang/IllegalArgumentException", h) := by
  obtain ⟨S, R, RP, F⟩ := id RA
  obtain ⟨⟨w1, w2⟩, ⟨n1, n2⟩, -⟩ := id F
  have r := in32 h hv ⟨by decide, by decide⟩ ⟨by decide, by decide⟩ lI0 lI1
  rw [if_neg c] at r
  show f_F_bestSwap h 180 (iI v) = some (.inr "java/lang/IllegalArgumentException", h)
  unfold f_F_bestSwap
  rw [r, Option.bind_some, if_pos rfl]
theorem k_simulate (RA : RepA h 182 0 184 z) (K : OKz B z) (hB : B < 2000000000) {x : Int64} {v : Int} (hv : InR v) (c : 1 ≤ v ∧ v ≤ 60) : ∃ h1, f_F_simulate h 180 x (iI v) = some (.inl (some (.int (iI (simR (simF trS lcg v.toNat x z))))), h1) ∧ QF h h1 := by
  obtain ⟨S, R, RP, F⟩ := id RA
  obtain ⟨⟨w1, w2⟩, ⟨n1, n2⟩, -⟩ := id F
  have r := in32 h hv ⟨by decide, by decide⟩ ⟨by decide, by decide⟩ lI1 lI60
  rw [if_pos c] at r
  obtain ⟨n, hn, rfl⟩ : ∃ n : Nat, n ≤ 60 ∧ v = n := ⟨v.toNat, by omega, by omega⟩
  obtain ⟨h1, g1, g2, g3, g4⟩ := a_become S3 B0 (by decide) R F
  obtain ⟨h2, k1, k2⟩ := c_sim n 0 4096 n x h1 z B (by omega) hn (by omega) (by omega) K g2
  refine ⟨h2, ?_, (QF.tr (fun i hi => by rw [k2 i hi, g4 i hi]))⟩
  show f_F_simulate h 180 x (iI n) = some (.inl (some (.int (iI (simR (simF trS lcg n x z))))), h2)
  unfold f_F_simulate
  rw [r, Option.bind_some, if_neg (by decide), f183, f00, g1, Option.bind_some, lI0]
  exact k1
theorem k_simulate_a (RA : RepA h 182 0 184 z) (K : OKz B z) {x : Int64} {v : Int} (hv : InR v) (c : ¬ (1 ≤ v ∧ v ≤ 60)) : f_F_simulate h 180 x (iI v) = some (.inr "java/lang/IllegalArgumentException", h) := by
  obtain ⟨S, R, RP, F⟩ := id RA
  obtain ⟨⟨w1, w2⟩, ⟨n1, n2⟩, -⟩ := id F
  have r := in32 h hv ⟨by decide, by decide⟩ ⟨by decide, by decide⟩ lI1 lI60
  rw [if_neg c] at r
  show f_F_simulate h 180 x (iI v) = some (.inr "java/lang/IllegalArgumentException", h)
  unfold f_F_simulate
  rw [r, Option.bind_some, if_pos rfl]
theorem k_runScript (RA : RepA h 182 0 184 z) (K : OKz B z) (hB : B < 2000000000) {s : Int} (hs1 : -9223372036854775808 ≤ s) (hs2 : s < 9223372036854775808) {v : Int} (hv : InR v) (c : 1 ≤ v ∧ v ≤ 3) (c0 : ¬ s < 0) (c1 : s < p5 v.toNat) : ∃ h1, f_F_runScript h 180 (iI v) (i64 s) = some (.inl (some (.int (iI (scrZ (fun k => s / p5 (v.toNat - 1 - k) % 100000) v.toNat 0 z)))), h1) ∧ QF h h1 := by
  obtain ⟨S, R, RP, F⟩ := id RA
  obtain ⟨⟨w1, w2⟩, ⟨n1, n2⟩, -⟩ := id F
  have r := in32 h hv ⟨by decide, by decide⟩ ⟨by decide, by decide⟩ lI1 lI3
  rw [if_pos c] at r
  obtain ⟨n, hn, hn1, rfl⟩ : ∃ n : Nat, n ≤ 3 ∧ 1 ≤ n ∧ v = n := ⟨v.toNat, by omega, by omega, by omega⟩
  have hp := p5_b n hn
  have e0 : (0 : Int64).toInt = 0 := by decide
  have hd : 0 ≤ s / p5 n := Int.ediv_nonneg (by omega) (by omega)
  have hd2 : s / p5 n ≤ s := Int.ediv_le_self _ (by omega)
  obtain ⟨h1, g1, g2, g3⟩ := c_split (h := h) hn (s := s) (by omega) hs2
  have q1 : QF h h1 := QF.of (fun i hi => g2 i (fun q => hi (by unfold nImp; omega)))
  have es : s / p5 n = 0 := Int.ediv_eq_zero_of_lt (by omega) c1
  have R1 : RepS h1 0 z := R.fr (fun i _ i2 => g2 i (by omega))
  obtain ⟨h2, b1, b2, b3, b4⟩ := a_become S3 B0 (by decide) R1 F
  have hG : ∀ k, k < 3 → 0 ≤ (fun k => s / p5 (n - 1 - k) % 100000) k ∧ (fun k => s / p5 (n - 1 - k) % 100000) k < 100000 := fun k _ => by
    show 0 ≤ s / p5 (n - 1 - k) % 100000 ∧ s / p5 (n - 1 - k) % 100000 < 100000
    omega
  obtain ⟨h3, k1, k2⟩ := c_run (fun k => s / p5 (n - 1 - k) % 100000) hG n 0 4096 n h2 z B (by omega) hn (by omega) (by omega) K b2 (fun k hk => by rw [b4 181 (by unfold own; omega)]; exact g3 k hk)
  refine ⟨h3, ?_, (q1.trans (QF.tr (fun i hi => by rw [k2 i hi, b4 i hi])))⟩
  show f_F_runScript h 180 (iI n) (i64 s) = some (.inl (some (.int (iI (scrZ (fun k => s / p5 (n - 1 - k) % 100000) n 0 z)))), h3)
  unfold f_F_runScript
  rw [r, Option.bind_some, if_neg (by decide), if_neg (fun q => c0 ((lg0 s hs1 hs2).mp q)), f_F_runScript_20, if_neg (by decide), g1, Option.bind_some]
  dsimp only
  rw [es, if_pos ((lg00 0 (by omega) (by omega)).mpr rfl), f_F_runScript_39, if_neg (by decide), f183, f00, b1, Option.bind_some, lI0]
  exact k1
theorem k_runScript_a (RA : RepA h 182 0 184 z) (K : OKz B z) {s : Int} (hs1 : -9223372036854775808 ≤ s) (hs2 : s < 9223372036854775808) {v : Int} (hv : InR v) (c : 1 ≤ v ∧ v ≤ 3) (c0 : ¬ s < 0) (c1 : ¬ s < p5 v.toNat) : ∃ h1, f_F_runScript h 180 (iI v) (i64 s) = some (.inr "java/lang/IllegalArgumentException", h1) ∧ QF h h1 := by
  obtain ⟨S, R, RP, F⟩ := id RA
  obtain ⟨⟨w1, w2⟩, ⟨n1, n2⟩, -⟩ := id F
  have r := in32 h hv ⟨by decide, by decide⟩ ⟨by decide, by decide⟩ lI1 lI3
  rw [if_pos c] at r
  obtain ⟨n, hn, hn1, rfl⟩ : ∃ n : Nat, n ≤ 3 ∧ 1 ≤ n ∧ v = n := ⟨v.toNat, by omega, by omega, by omega⟩
  have hp := p5_b n hn
  have c1 : ¬ s < p5 n := c1
  have e0 : (0 : Int64).toInt = 0 := by decide
  have hd : 0 ≤ s / p5 n := Int.ediv_nonneg (by omega) (by omega)
  have hd2 : s / p5 n ≤ s := Int.ediv_le_self _ (by omega)
  obtain ⟨h1, g1, g2, g3⟩ := c_split (h := h) hn (s := s) (by omega) hs2
  have q1 : QF h h1 := QF.of (fun i hi => g2 i (fun q => hi (by unfold nImp; omega)))
  have es : ¬ s / p5 n = 0 := fun q => by
    have := Int.le_ediv_iff_mul_le (a := 1) (b := s) (c := p5 n) hp.1
    have h2 : 1 ≤ s / p5 n := this.mpr (by omega)
    omega
  refine ⟨h1, ?_, q1⟩
  show f_F_runScript h 180 (iI n) (i64 s) = some (.inr "java/lang/IllegalArgumentException", h1)
  unfold f_F_runScript
  rw [r, Option.bind_some, if_neg (by decide), if_neg (fun q => c0 ((lg0 s hs1 hs2).mp q)), f_F_runScript_20, if_neg (by decide), g1, Option.bind_some]
  dsimp only
  rw [if_neg (fun q => es ((lg00 _ (by omega) (by omega)).mp q)), f_F_runScript_39, if_pos rfl]
theorem k_runScript_b (RA : RepA h 182 0 184 z) (K : OKz B z) {s : Int} (hs1 : -9223372036854775808 ≤ s) (hs2 : s < 9223372036854775808) {v : Int} (hv : InR v) (c : ¬ (1 ≤ v ∧ v ≤ 3)) : f_F_runScript h 180 (iI v) (i64 s) = some (.inr "java/lang/IllegalArgumentException", h) := by
  obtain ⟨S, R, RP, F⟩ := id RA
  obtain ⟨⟨w1, w2⟩, ⟨n1, n2⟩, -⟩ := id F
  have r := in32 h hv ⟨by decide, by decide⟩ ⟨by decide, by decide⟩ lI1 lI3
  rw [if_neg c] at r
  show f_F_runScript h 180 (iI v) (i64 s) = some (.inr "java/lang/IllegalArgumentException", h)
  unfold f_F_runScript
  rw [r, Option.bind_some, if_pos rfl, f_F_runScript_19, f_F_runScript_20, if_pos rfl]
theorem k_runScript_c (RA : RepA h 182 0 184 z) (K : OKz B z) {s : Int} (hs1 : -9223372036854775808 ≤ s) (hs2 : s < 9223372036854775808) {v : Int} (hv : InR v) (c : 1 ≤ v ∧ v ≤ 3) (c0 : s < 0) : f_F_runScript h 180 (iI v) (i64 s) = some (.inr "java/lang/IllegalArgumentException", h) := by
  obtain ⟨S, R, RP, F⟩ := id RA
  obtain ⟨⟨w1, w2⟩, ⟨n1, n2⟩, -⟩ := id F
  have r := in32 h hv ⟨by decide, by decide⟩ ⟨by decide, by decide⟩ lI1 lI3
  rw [if_pos c] at r
  obtain ⟨n, hn, hn1, rfl⟩ : ∃ n : Nat, n ≤ 3 ∧ 1 ≤ n ∧ v = n := ⟨v.toNat, by omega, by omega, by omega⟩
  have hp := p5_b n hn
  have e0 : (0 : Int64).toInt = 0 := by decide
  show f_F_runScript h 180 (iI n) (i64 s) = some (.inr "java/lang/IllegalArgumentException", h)
  unfold f_F_runScript
  rw [r, Option.bind_some, if_neg (by decide), if_pos ((lg0 s hs1 hs2).mpr c0), f_F_runScript_19, f_F_runScript_20, if_pos rfl]
theorem k_errPos (TI : TxC h t n) : ∃ h1, f_F_errorPosition h 180 = some (iI (errZ t n), h1) ∧ QF h h1 := by
  obtain ⟨h1, g1, g2, g3⟩ := c_err TI
  have q1 : QF h h1 := ⟨fun i i1 _ i3 => g2 i i3 (fun q => i1 (by unfold nImp; omega)), fun k k1 k2 => g3 k k1 k2, fun k _ _ _ _ => by rw [g2 200 (by decide) (by decide)]⟩
  refine ⟨h1, ?_, q1⟩
  unfold f_F_errorPosition
  rw [f04, g1, Option.bind_some]
end TRIALS
