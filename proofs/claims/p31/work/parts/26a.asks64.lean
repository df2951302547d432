/-! the questions once more: their numbers as they are -/
theorem li_e {x : Int} (hx : InR x) : li x = i64 x := by
  obtain ⟨h1, h2⟩ := id hx
  exact Int64.toInt_inj.mp (by rw [li_t hx, i64_t (by omega) (by omega)])
theorem i64_a (a b : Int) : i64 a + i64 b = i64 (a + b) := (Int64.ofInt_add a b).symm
theorem i64_s (a b : Int) : i64 a - i64 b = i64 (a - b) := (Int64.ofInt_sub a b).symm
theorem i64_m (a b : Int) : i64 a * i64 b = i64 (a * b) := (Int64.ofInt_mul a b).symm
theorem l64_0 : (0 : Int64) = i64 0 := by decide
theorem l64_1 : (1 : Int64) = i64 1 := by decide
theorem l64_2 : (2 : Int64) = i64 2 := by decide
theorem l64_9 : (9 : Int64) = i64 9 := by decide
theorem l64_m : (-1 : Int64) = i64 (-1) := by decide
theorem i64_i {a b : Int} (h1 : -1000000000 ≤ a) (h2 : a ≤ 1000000000) (h3 : -1000000000 ≤ b) (h4 : b ≤ 1000000000) : i64 a = i64 b ↔ a = b := by
  constructor
  · intro h
    have := congrArg Int64.toInt h
    rw [i64_t (by omega) (by omega), i64_t (by omega) (by omega)] at this
    exact this
  · rintro rfl; rfl
theorem sm_rng {G : Nat → Int} {M : Int} : ∀ n i : Nat, (∀ k, i ≤ k → k < i + n → 0 ≤ G k ∧ G k ≤ M) → 0 ≤ sm G n i ∧ sm G n i ≤ n * M := by
  intro n
  induction n with
  | zero => intro i _; exact ⟨Int.le_refl _, by show (0 : Int) ≤ ((0 : Nat) : Int) * M; rw [Int.natCast_zero, Int.zero_mul]; exact Int.le_refl _⟩
  | succ n ih =>
    intro i h
    have h1 := h i (by omega) (by omega)
    have h2 := ih (i + 1) (fun k a b => h k (by omega) (by omega))
    rw [Int.natCast_succ, Int.add_mul, Int.one_mul]
    show 0 ≤ G i + sm G n (i + 1) ∧ G i + sm G n (i + 1) ≤ _
    omega
section RANGES
variable {z : Nat → Int}
theorem rg_has (F : WF z) : 0 ≤ hasZ z ∧ hasZ z ≤ 1000 := by
  have hn := F.2.1
  have := sm_rng (G := fun d => if z (127 + 6 * d) = -1 then 0 else 1) (M := 1) (z 185).toNat 0 (fun k _ _ => by split <;> omega)
  unfold hasZ
  omega
theorem rg_met (F : WF z) : 0 ≤ metZ z ∧ metZ z ≤ 1000 := by
  have hn := F.1
  have := sm_rng (G := fun d => z (31 * d)) (M := 30) (z 184).toNat 0 (fun k _ k2 => F.2.2.2.1 k (by omega))
  unfold metZ
  omega
theorem rg_fre (F : WF z) {w : Nat} (hw : (w : Int) < z 184) : 0 ≤ freZ z w ∧ freZ z w ≤ 40 := fre_b z F (by have := F.1; omega)
theorem rg_fmt (F : WF z) : 0 ≤ fmtZ z ∧ fmtZ z ≤ 1000 := by
  have hn := F.1
  have := sm_rng (G := fun d => freZ z d) (M := 40) (z 184).toNat 0 (fun k _ k2 => rg_fre F (by omega))
  unfold fmtZ
  omega
theorem rg_plg (F : WF z) {w : Nat} (hw : (w : Int) < z 184) : 0 ≤ plgZ z w ∧ plgZ z w ≤ 120 := by
  have hn := F.1
  have hL := F.2.2.2.1 w (by omega)
  have := sm_rng (G := fun m => z (31 * w + 1 + m)) (M := 4) (z (31 * w)).toNat 0 (fun k _ k2 => F.2.2.2.2.1 w k (by omega) (by omega))
  unfold plgZ
  omega
theorem rg_plt (F : WF z) : 0 ≤ pltZ z ∧ pltZ z ≤ 1000 := by
  have hn := F.1
  have := sm_rng (G := fun d => plgZ z d) (M := 120) (z 184).toNat 0 (fun k _ k2 => rg_plg F (by omega))
  unfold pltZ
  omega
theorem rg_tkn (F : WF z) {w m : Nat} (hw : w < 4) (hm : m < 30) : 0 ≤ (shareZ z).1 (30 * w + m) ∧ (shareZ z).1 (30 * w + m) ≤ z (31 * w + 1 + m) ∧ (shareZ z).1 (30 * w + m) ≤ 4 := by
  have h := (sh_SI F).1 w m hw hm
  have p := F.2.2.2.2.1 w m hw hm
  omega
theorem rg_hadw (F : WF z) {w : Nat} (hw : (w : Int) < z 184) : 0 ≤ hadZ z w ∧ hadZ z w ≤ 120 := by
  have hn := F.1
  have hL := F.2.2.2.1 w (by omega)
  have := sm_rng (G := fun m => (shareZ z).1 (30 * w + m)) (M := 4) (z (31 * w)).toNat 0 (fun k _ k2 => by have := rg_tkn F (w := w) (m := k) (by omega) (by omega); omega)
  unfold hadZ
  omega
theorem rg_had (F : WF z) {d : Nat} (hd : d < 10) : 0 ≤ (shareZ z).2.1 d ∧ (shareZ z).2.1 d ≤ z (126 + 6 * d) ∧ (shareZ z).2.1 d ≤ 3 := by
  have h := sh_had F hd
  have p := F.2.2.2.2.2.1 d hd
  omega
theorem rg_hdt (F : WF z) : 0 ≤ hdtZ z ∧ hdtZ z ≤ 1000 := by
  have hn := F.2.1
  have := sm_rng (G := fun d => (shareZ z).2.1 d) (M := 3) (z 185).toNat 0 (fun k _ k2 => by have := rg_had F (d := k) (by omega); omega)
  unfold hdtZ
  omega
theorem rg_lack (F : WF z) {d : Nat} (hd : d < 10) : 0 ≤ lackZ z d ∧ lackZ z d ≤ 3 := by
  have h := rg_had F hd
  have p := F.2.2.2.2.2.1 d hd
  unfold lackZ
  split <;> omega
theorem rg_lkt (F : WF z) : 0 ≤ lktZ z ∧ lktZ z ≤ 1000 := by
  have hn := F.2.1
  have := sm_rng (G := fun d => lackZ z d) (M := 3) (z 185).toNat 0 (fun k _ k2 => rg_lack F (by omega))
  unfold lktZ
  omega
theorem rg_rvt (F : WF z) : 0 ≤ rvtZ z ∧ rvtZ z ≤ 1000 := by
  have hn := F.2.1
  have := sm_rng (G := fun d => rivZ z d) (M := 10) (z 185).toNat 0 (fun k _ k2 => riv_b F k)
  unfold rvtZ
  omega
theorem rg_ows {B : Int} (K : OKz B z) (hB : B ≤ 50000000) : 0 ≤ z 189 ∧ z 189 ≤ 500000000 := by
  have hn := K.1.2.1
  have := sm_rng (G := fun d => z (129 + 6 * d)) (M := 50000000) (z 185).toNat 0 (fun k _ k2 => by have := K.2.1 k (by omega); omega)
  rw [K.2.2]
  unfold owsZ
  omega
theorem rg_end (z : Nat → Int) (d : Nat) : 0 ≤ endZ z d ∧ endZ z d ≤ 2 := by
  unfold endZ
  split
  · omega
  · split <;> split <;> omega
theorem rg_nbr (F : WF z) {d : Nat} (hd : (d : Int) < z 185) : 0 ≤ nbrZ z d ∧ nbrZ z d ≤ 2 := by
  have hn := F.2.1
  have := sm_rng (G := fun e => if nbr z d e then 1 else 0) (M := 1) (z 185).toNat 0 (fun k _ k2 => by split <;> omega)
  refine ⟨?_, nbr_le F (by omega) hd⟩
  unfold nbrZ
  omega
theorem rg_at (F : WF z) (w m : Int) : -1 ≤ atZ z w m ∧ atZ z w m < 10 := by
  have hn := F.2.1
  rcases atZ_is F w m with ⟨h, -⟩ | ⟨k, h1, h2, -⟩ <;> omega
theorem rg_src (F : WF z) {d k : Nat} (hd : (d : Int) < z 185) (hk : k < 3) : -1 ≤ (shareZ z).2.2 (3 * d + k) ∧ (shareZ z).2.2 (3 * d + k) ≤ 100 := by
  have hn := F.2.1
  by_cases c : (shareZ z).2.1 d ≤ k
  · have := share_src F d k (by omega) hk c
    omega
  · have h := (sh_SI F).2.2.1 d k (by omega) hk (by omega)
    have p := F.2.2.2.2.2.1 d (by omega)
    have q := F.wall (d := d) (by omega) hd
    have r := F.2.2.2.2.2.2.2.2.1 1 (by omega)
    have : z 191 ≤ 50 := r.2
    omega
end RANGES
section ASKS64
variable {h : HP} {z : Nat → Int} {B : Int} {A : (Nat → Nat → Int) × Nat × (Nat → Bool) × (Nat → Nat → Int) × (Nat → Int) × Nat}
theorem wa_0 (I : CI B h (z, A)) : f_Q_about h 180 0 = some (i64 (z 184), h) := by
  have F := I.wf
  have g := F.1
  rw [← li_e (x := z 184) (inn (by omega) (by omega))]
  exact w_about I (v := 0) (inn (by omega) (by omega)) (by omega) lI0
theorem na_0 (I : CI B h (z, A)) : g_Q_about h 180 0 = some (i64 (z 184), h) := by
  have F := I.wf
  have g := F.1
  rw [← li_e (x := z 184) (inn (by omega) (by omega))]
  exact n_about I (v := 0) (inn (by omega) (by omega)) (by omega) lI0
theorem wa_1 (I : CI B h (z, A)) : f_Q_about h 180 1 = some (i64 (z 185), h) := by
  have F := I.wf
  have g := F.2.1
  rw [← li_e (x := z 185) (inn (by omega) (by omega))]
  exact w_about I (v := 1) (inn (by omega) (by omega)) (by omega) lI1
theorem na_1 (I : CI B h (z, A)) : g_Q_about h 180 1 = some (i64 (z 185), h) := by
  have F := I.wf
  have g := F.2.1
  rw [← li_e (x := z 185) (inn (by omega) (by omega))]
  exact n_about I (v := 1) (inn (by omega) (by omega)) (by omega) lI1
theorem wa_2 (I : CI B h (z, A)) : f_Q_about h 180 2 = some (i64 (hasZ z), h) := by
  have F := I.wf
  have g := rg_has F
  rw [← li_e (x := hasZ z) (inn (by omega) (by omega))]
  exact w_about I (v := 2) (inn (by omega) (by omega)) (by omega) lI2
theorem na_2 (I : CI B h (z, A)) : g_Q_about h 180 2 = some (i64 (hasZ z), h) := by
  have F := I.wf
  have g := rg_has F
  rw [← li_e (x := hasZ z) (inn (by omega) (by omega))]
  exact n_about I (v := 2) (inn (by omega) (by omega)) (by omega) lI2
theorem wa_3 (I : CI B h (z, A)) : f_Q_about h 180 3 = some (i64 (metZ z), h) := by
  have F := I.wf
  have g := rg_met F
  rw [← li_e (x := metZ z) (inn (by omega) (by omega))]
  exact w_about I (v := 3) (inn (by omega) (by omega)) (by omega) lI3
theorem na_3 (I : CI B h (z, A)) : g_Q_about h 180 3 = some (i64 (metZ z), h) := by
  have F := I.wf
  have g := rg_met F
  rw [← li_e (x := metZ z) (inn (by omega) (by omega))]
  exact n_about I (v := 3) (inn (by omega) (by omega)) (by omega) lI3
theorem wa_4 (I : CI B h (z, A)) : f_Q_about h 180 4 = some (i64 (fmtZ z), h) := by
  have F := I.wf
  have g := rg_fmt F
  rw [← li_e (x := fmtZ z) (inn (by omega) (by omega))]
  exact w_about I (v := 4) (inn (by omega) (by omega)) (by omega) lI4
theorem na_4 (I : CI B h (z, A)) : g_Q_about h 180 4 = some (i64 (fmtZ z), h) := by
  have F := I.wf
  have g := rg_fmt F
  rw [← li_e (x := fmtZ z) (inn (by omega) (by omega))]
  exact n_about I (v := 4) (inn (by omega) (by omega)) (by omega) lI4
theorem wa_5 (I : CI B h (z, A)) : f_Q_about h 180 5 = some (i64 (pltZ z), h) := by
  have F := I.wf
  have g := rg_plt F
  rw [← li_e (x := pltZ z) (inn (by omega) (by omega))]
  exact w_about I (v := 5) (inn (by omega) (by omega)) (by omega) lI5
theorem na_5 (I : CI B h (z, A)) : g_Q_about h 180 5 = some (i64 (pltZ z), h) := by
  have F := I.wf
  have g := rg_plt F
  rw [← li_e (x := pltZ z) (inn (by omega) (by omega))]
  exact n_about I (v := 5) (inn (by omega) (by omega)) (by omega) lI5
theorem wa_6 (I : CI B h (z, A)) : f_Q_about h 180 6 = some (i64 (hdtZ z), h) := by
  have F := I.wf
  have g := rg_hdt F
  rw [← li_e (x := hdtZ z) (inn (by omega) (by omega))]
  exact w_about I (v := 6) (inn (by omega) (by omega)) (by omega) lI6
theorem na_6 (I : CI B h (z, A)) : g_Q_about h 180 6 = some (i64 (hdtZ z), h) := by
  have F := I.wf
  have g := rg_hdt F
  rw [← li_e (x := hdtZ z) (inn (by omega) (by omega))]
  exact n_about I (v := 6) (inn (by omega) (by omega)) (by omega) lI6
theorem wa_7 (I : CI B h (z, A)) : f_Q_about h 180 7 = some (i64 (lktZ z), h) := by
  have F := I.wf
  have g := rg_lkt F
  rw [← li_e (x := lktZ z) (inn (by omega) (by omega))]
  exact w_about I (v := 7) (inn (by omega) (by omega)) (by omega) lI7
theorem na_7 (I : CI B h (z, A)) : g_Q_about h 180 7 = some (i64 (lktZ z), h) := by
  have F := I.wf
  have g := rg_lkt F
  rw [← li_e (x := lktZ z) (inn (by omega) (by omega))]
  exact n_about I (v := 7) (inn (by omega) (by omega)) (by omega) lI7
theorem wa_8 (I : CI B h (z, A)) : f_Q_about h 180 8 = some (i64 (rtsZ z), h) := by
  have F := I.wf
  have g := rts_b F
  rw [← li_e (x := rtsZ z) (inn (by omega) (by omega))]
  exact w_about I (v := 8) (inn (by omega) (by omega)) (by omega) lI8
theorem na_8 (I : CI B h (z, A)) : g_Q_about h 180 8 = some (i64 (rtsZ z), h) := by
  have F := I.wf
  have g := rts_b F
  rw [← li_e (x := rtsZ z) (inn (by omega) (by omega))]
  exact n_about I (v := 8) (inn (by omega) (by omega)) (by omega) lI8
theorem wa_9 (I : CI B h (z, A)) (hB : B ≤ 50000000) : f_Q_about h 180 9 = some (i64 (z 189), h) := by
  have F := I.wf
  have g : 0 ≤ z 189 ∧ z 189 ≤ 500000000 := rg_ows I.1.2.2 hB
  rw [← li_e (x := z 189) ⟨by omega, by omega⟩]
  exact w_about I (v := 9) (inn (by omega) (by omega)) (by omega) lI9
theorem na_9 (I : CI B h (z, A)) (hB : B ≤ 50000000) : g_Q_about h 180 9 = some (i64 (z 189), h) := by
  have F := I.wf
  have g : 0 ≤ z 189 ∧ z 189 ≤ 500000000 := rg_ows I.1.2.2 hB
  rw [← li_e (x := z 189) ⟨by omega, by omega⟩]
  exact n_about I (v := 9) (inn (by omega) (by omega)) (by omega) lI9
theorem wa_11 (I : CI B h (z, A)) : f_Q_about h 180 11 = some (i64 (z 187), h) := by
  have F := I.wf
  have g := F.2.2.1
  rw [← li_e (x := z 187) (inn (by omega) (by omega))]
  exact w_about I (v := 11) (inn (by omega) (by omega)) (by omega) lI11
theorem na_11 (I : CI B h (z, A)) : g_Q_about h 180 11 = some (i64 (z 187), h) := by
  have F := I.wf
  have g := F.2.2.1
  rw [← li_e (x := z 187) (inn (by omega) (by omega))]
  exact n_about I (v := 11) (inn (by omega) (by omega)) (by omega) lI11
theorem wa_13 (I : CI B h (z, A)) : f_Q_about h 180 13 = some (i64 (rvtZ z / 2), h) := by
  have F := I.wf
  have g := rg_rvt F
  rw [← li_e (x := rvtZ z / 2) (inn (by omega) (by omega))]
  exact w_about I (v := 13) (inn (by omega) (by omega)) (by omega) lI13
theorem na_13 (I : CI B h (z, A)) : g_Q_about h 180 13 = some (i64 (rvtZ z / 2), h) := by
  have F := I.wf
  have g := rg_rvt F
  rw [← li_e (x := rvtZ z / 2) (inn (by omega) (by omega))]
  exact n_about I (v := 13) (inn (by omega) (by omega)) (by omega) lI13
theorem nw_0 (I : CI B h (z, A)) {w : Nat} (hw : (w : Int) < z 184) : g_Q_wallOf h 180 (iI w) 0 = some (i64 (z (31 * w)), h) := by
  have F := I.wf
  have hn := F.1
  have hL := F.2.2.2.1 w (by omega)
  have g := hL
  rw [← li_e (x := z (31 * w)) (inn (by omega) (by omega))]
  exact n_wallOf I (x := w) (v := 0) (inn (by omega) (by omega)) (inn (by omega) (by omega)) ⟨by omega, hw⟩ (by omega) rfl lI0
theorem nw_2 (I : CI B h (z, A)) {w : Nat} (hw : (w : Int) < z 184) : g_Q_wallOf h 180 (iI w) 2 = some (i64 (plgZ z w), h) := by
  have F := I.wf
  have hn := F.1
  have hL := F.2.2.2.1 w (by omega)
  have g := rg_plg F hw
  rw [← li_e (x := plgZ z w) (inn (by omega) (by omega))]
  exact n_wallOf I (x := w) (v := 2) (inn (by omega) (by omega)) (inn (by omega) (by omega)) ⟨by omega, hw⟩ (by omega) rfl lI2
theorem nw_3 (I : CI B h (z, A)) {w : Nat} (hw : (w : Int) < z 184) : g_Q_wallOf h 180 (iI w) 3 = some (i64 (hadZ z w), h) := by
  have F := I.wf
  have hn := F.1
  have hL := F.2.2.2.1 w (by omega)
  have g := rg_hadw F hw
  rw [← li_e (x := hadZ z w) (inn (by omega) (by omega))]
  exact n_wallOf I (x := w) (v := 3) (inn (by omega) (by omega)) (inn (by omega) (by omega)) ⟨by omega, hw⟩ (by omega) rfl lI3
theorem nw_4 (I : CI B h (z, A)) {w : Nat} (hw : (w : Int) < z 184) : g_Q_wallOf h 180 (iI w) 4 = some (i64 ((rowZ z w).1), h) := by
  have F := I.wf
  have hn := F.1
  have hL := F.2.2.2.1 w (by omega)
  have g := And.intro (row_free z w).1 (rg_fre F hw)
  rw [← li_e (x := (rowZ z w).1) (inn (by omega) (by omega))]
  exact n_wallOf I (x := w) (v := 4) (inn (by omega) (by omega)) (inn (by omega) (by omega)) ⟨by omega, hw⟩ (by omega) rfl lI4
theorem nw_5 (I : CI B h (z, A)) {w : Nat} (hw : (w : Int) < z 184) : g_Q_wallOf h 180 (iI w) 5 = some (li (rowZ z w).2, h) := by
  have hn := I.wf.1
  exact n_wallOf I (x := w) (v := 5) (inn (by omega) (by omega)) (inn (by omega) (by omega)) ⟨by omega, hw⟩ (by omega) rfl lI5
theorem nf_0 (I : CI B h (z, A)) {w : Nat} (hw : (w : Int) < z 184) : g_Q_free h 180 (iI w) 0 = some (i64 (freZ z w), h) := by
  have F := I.wf
  have hn := F.1
  have g := rg_fre F hw
  rw [← li_e (x := freZ z w) (inn (by omega) (by omega))]
  exact n_free I (x := w) (v := 0) (inn (by omega) (by omega)) (inn (by omega) (by omega)) ⟨by omega, hw⟩ (by omega) rfl lI0
theorem nf_1 (I : CI B h (z, A)) {w : Nat} (hw : (w : Int) < z 184) : g_Q_free h 180 (iI w) 1 = some (i64 (freZ z w), h) := by
  have F := I.wf
  have hn := F.1
  have g := rg_fre F hw
  rw [← li_e (x := freZ z w) (inn (by omega) (by omega))]
  rw [free_both F hw]
  exact n_free I (x := w) (v := 1) (inn (by omega) (by omega)) (inn (by omega) (by omega)) ⟨by omega, hw⟩ (by omega) rfl lI1
theorem nm_0 (I : CI B h (z, A)) {w m : Nat} (hw : (w : Int) < z 184) (hm : (m : Int) < z (31 * w)) : g_Q_metreOf h 180 (iI w) (iI m) 0 = some (i64 (z (31 * w + 1 + m)), h) := by
  have F := I.wf
  have hn := F.1
  have hL := F.2.2.2.1 w (by omega)
  have g := F.2.2.2.2.1 w m (by omega) (by omega)
  rw [← li_e (x := z (31 * w + 1 + m)) (inn (by omega) (by omega))]
  exact n_metreOf I (x := w) (y := m) (v := 0) (inn (by omega) (by omega)) (inn (by omega) (by omega)) (inn (by omega) (by omega)) ⟨by omega, hw, by omega, hm⟩ (by omega) rfl rfl lI0
theorem nm_1 (I : CI B h (z, A)) {w m : Nat} (hw : (w : Int) < z 184) (hm : (m : Int) < z (31 * w)) : g_Q_metreOf h 180 (iI w) (iI m) 1 = some (i64 ((shareZ z).1 (30 * w + m)), h) := by
  have F := I.wf
  have hn := F.1
  have hL := F.2.2.2.1 w (by omega)
  have g := rg_tkn F (w := w) (m := m) (by omega) (by omega)
  rw [← li_e (x := (shareZ z).1 (30 * w + m)) (inn (by omega) (by omega))]
  exact n_metreOf I (x := w) (y := m) (v := 1) (inn (by omega) (by omega)) (inn (by omega) (by omega)) (inn (by omega) (by omega)) ⟨by omega, hw, by omega, hm⟩ (by omega) rfl rfl lI1
theorem nm_2 (I : CI B h (z, A)) {w m : Nat} (hw : (w : Int) < z 184) (hm : (m : Int) < z (31 * w)) : g_Q_metreOf h 180 (iI w) (iI m) 2 = some (i64 (atZ z w m), h) := by
  have F := I.wf
  have hn := F.1
  have hL := F.2.2.2.1 w (by omega)
  have g := rg_at F w m
  rw [← li_e (x := atZ z w m) (inn (by omega) (by omega))]
  exact n_metreOf I (x := w) (y := m) (v := 2) (inn (by omega) (by omega)) (inn (by omega) (by omega)) (inn (by omega) (by omega)) ⟨by omega, hw, by omega, hm⟩ (by omega) rfl rfl lI2
theorem nd_1 (I : CI B h (z, A)) {d : Nat} (hd : (d : Int) < z 185) : g_Q_dealerOf h 180 (iI d) 1 = some (i64 (z (125 + 6 * d)), h) := by
  have F := I.wf
  have hn := F.2.1
  have g := F.2.2.2.2.2.1 d (by omega)
  rw [← li_e (x := z (125 + 6 * d)) (inn (by omega) (by omega))]
  exact n_dealerOf I (x := d) (v := 1) (inn (by omega) (by omega)) (inn (by omega) (by omega)) ⟨by omega, hd⟩ (by omega) rfl lI1
theorem nd_2 (I : CI B h (z, A)) {d : Nat} (hd : (d : Int) < z 185) : g_Q_dealerOf h 180 (iI d) 2 = some (i64 (z (126 + 6 * d)), h) := by
  have F := I.wf
  have hn := F.2.1
  have g := F.2.2.2.2.2.1 d (by omega)
  rw [← li_e (x := z (126 + 6 * d)) (inn (by omega) (by omega))]
  exact n_dealerOf I (x := d) (v := 2) (inn (by omega) (by omega)) (inn (by omega) (by omega)) ⟨by omega, hd⟩ (by omega) rfl lI2
theorem nd_3 (I : CI B h (z, A)) {d : Nat} (hd : (d : Int) < z 185) : g_Q_dealerOf h 180 (iI d) 3 = some (i64 (z (127 + 6 * d)), h) := by
  have F := I.wf
  have hn := F.2.1
  have g := F.wall (d := d) (by omega) hd
  rw [← li_e (x := z (127 + 6 * d)) (inn (by omega) (by omega))]
  exact n_dealerOf I (x := d) (v := 3) (inn (by omega) (by omega)) (inn (by omega) (by omega)) ⟨by omega, hd⟩ (by omega) rfl lI3
theorem wd_3 (I : CI B h (z, A)) {d : Nat} (hd : (d : Int) < z 185) : f_Q_dealerOf h 180 (iI d) 3 = some (i64 (z (127 + 6 * d)), h) := by
  have F := I.wf
  have hn := F.2.1
  have g := F.wall (d := d) (by omega) hd
  rw [← li_e (x := z (127 + 6 * d)) (inn (by omega) (by omega))]
  exact w_dealerOf I (x := d) (v := 3) (inn (by omega) (by omega)) (inn (by omega) (by omega)) ⟨by omega, hd⟩ (by omega) rfl lI3
theorem nd_4 (I : CI B h (z, A)) {d : Nat} (hd : (d : Int) < z 185) : g_Q_dealerOf h 180 (iI d) 4 = some (i64 (z (128 + 6 * d)), h) := by
  have F := I.wf
  have hn := F.2.1
  have g := F.wall (d := d) (by omega) hd
  rw [← li_e (x := z (128 + 6 * d)) (inn (by omega) (by omega))]
  exact n_dealerOf I (x := d) (v := 4) (inn (by omega) (by omega)) (inn (by omega) (by omega)) ⟨by omega, hd⟩ (by omega) rfl lI4
theorem nd_5 (I : CI B h (z, A)) {d : Nat} (hd : (d : Int) < z 185) : g_Q_dealerOf h 180 (iI d) 5 = some (i64 ((shareZ z).2.1 d), h) := by
  have F := I.wf
  have hn := F.2.1
  have g := rg_had F (d := d) (by omega)
  rw [← li_e (x := (shareZ z).2.1 d) (inn (by omega) (by omega))]
  exact n_dealerOf I (x := d) (v := 5) (inn (by omega) (by omega)) (inn (by omega) (by omega)) ⟨by omega, hd⟩ (by omega) rfl lI5
theorem nd_6 (I : CI B h (z, A)) {d : Nat} (hd : (d : Int) < z 185) : g_Q_dealerOf h 180 (iI d) 6 = some (i64 (lackZ z d), h) := by
  have F := I.wf
  have hn := F.2.1
  have g := rg_lack F (d := d) (by omega)
  rw [← li_e (x := lackZ z d) (inn (by omega) (by omega))]
  exact n_dealerOf I (x := d) (v := 6) (inn (by omega) (by omega)) (inn (by omega) (by omega)) ⟨by omega, hd⟩ (by omega) rfl lI6
theorem nd_7 (I : CI B h (z, A)) {d : Nat} (hd : (d : Int) < z 185) : g_Q_dealerOf h 180 (iI d) 7 = some (i64 (rentZ z d), h) := by
  have F := I.wf
  have hn := F.2.1
  have g := rent_b F (d := d) (by omega)
  rw [← li_e (x := rentZ z d) (inn (by omega) (by omega))]
  exact n_dealerOf I (x := d) (v := 7) (inn (by omega) (by omega)) (inn (by omega) (by omega)) ⟨by omega, hd⟩ (by omega) rfl lI7
theorem wd_7 (I : CI B h (z, A)) {d : Nat} (hd : (d : Int) < z 185) : f_Q_dealerOf h 180 (iI d) 7 = some (i64 (rentZ z d), h) := by
  have F := I.wf
  have hn := F.2.1
  have g := rent_b F (d := d) (by omega)
  rw [← li_e (x := rentZ z d) (inn (by omega) (by omega))]
  exact w_dealerOf I (x := d) (v := 7) (inn (by omega) (by omega)) (inn (by omega) (by omega)) ⟨by omega, hd⟩ (by omega) rfl lI7
theorem nd_8 (I : CI B h (z, A)) (hB : B ≤ 50000000) {d : Nat} (hd : (d : Int) < z 185) : g_Q_dealerOf h 180 (iI d) 8 = some (i64 (z (129 + 6 * d)), h) := by
  have F := I.wf
  have hn := F.2.1
  have g := (show 0 ≤ z (129 + 6 * d) ∧ z (129 + 6 * d) ≤ B ∧ (z 185 ≤ (d : Int) → z (129 + 6 * d) = 0) from I.1.2.2.2.1 d (by omega))
  rw [← li_e (x := z (129 + 6 * d)) ⟨by omega, by omega⟩]
  exact n_dealerOf I (x := d) (v := 8) (inn (by omega) (by omega)) (inn (by omega) (by omega)) ⟨by omega, hd⟩ (by omega) rfl lI8
theorem wd_8 (I : CI B h (z, A)) (hB : B ≤ 50000000) {d : Nat} (hd : (d : Int) < z 185) : f_Q_dealerOf h 180 (iI d) 8 = some (i64 (z (129 + 6 * d)), h) := by
  have F := I.wf
  have hn := F.2.1
  have g := (show 0 ≤ z (129 + 6 * d) ∧ z (129 + 6 * d) ≤ B ∧ (z 185 ≤ (d : Int) → z (129 + 6 * d) = 0) from I.1.2.2.2.1 d (by omega))
  rw [← li_e (x := z (129 + 6 * d)) ⟨by omega, by omega⟩]
  exact w_dealerOf I (x := d) (v := 8) (inn (by omega) (by omega)) (inn (by omega) (by omega)) ⟨by omega, hd⟩ (by omega) rfl lI8
theorem nd_9 (I : CI B h (z, A)) {d : Nat} (hd : (d : Int) < z 185) : g_Q_dealerOf h 180 (iI d) 9 = some (i64 (endZ z d), h) := by
  have F := I.wf
  have hn := F.2.1
  have g := rg_end z d
  rw [← li_e (x := endZ z d) (inn (by omega) (by omega))]
  exact n_dealerOf I (x := d) (v := 9) (inn (by omega) (by omega)) (inn (by omega) (by omega)) ⟨by omega, hd⟩ (by omega) rfl lI9
theorem nd_10 (I : CI B h (z, A)) {d : Nat} (hd : (d : Int) < z 185) : g_Q_dealerOf h 180 (iI d) 10 = some (i64 (nbrZ z d), h) := by
  have F := I.wf
  have hn := F.2.1
  have g := rg_nbr F hd
  rw [← li_e (x := nbrZ z d) (inn (by omega) (by omega))]
  exact n_dealerOf I (x := d) (v := 10) (inn (by omega) (by omega)) (inn (by omega) (by omega)) ⟨by omega, hd⟩ (by omega) rfl lI10
theorem nd_11 (I : CI B h (z, A)) {d : Nat} (hd : (d : Int) < z 185) : g_Q_dealerOf h 180 (iI d) 11 = some (i64 (rivZ z d), h) := by
  have F := I.wf
  have hn := F.2.1
  have g := riv_b F d
  rw [← li_e (x := rivZ z d) (inn (by omega) (by omega))]
  exact n_dealerOf I (x := d) (v := 11) (inn (by omega) (by omega)) (inn (by omega) (by omega)) ⟨by omega, hd⟩ (by omega) rfl lI11
theorem np_k (I : CI B h (z, A)) {d k : Nat} (hd : (d : Int) < z 185) (hk : k < 3) : g_Q_plugOf h 180 (iI d) (iI k) = some (i64 ((shareZ z).2.2 (3 * d + k)), h) := by
  have F := I.wf
  have hn := F.2.1
  have g := rg_src F hd hk
  rw [← li_e (x := (shareZ z).2.2 (3 * d + k)) (inn (by omega) (by omega))]
  exact n_plugOf I (x := d) (v := k) (inn (by omega) (by omega)) (inn (by omega) (by omega)) ⟨by omega, hd⟩ (by omega) rfl rfl
theorem ns_1 (I : CI B h (z, A)) : g_Q_setting h 180 1 = some (i64 (z 191), h) := by
  have F := I.wf
  have g := F.2.2.2.2.2.2.2.2.1 1 (by omega)
  have g : 0 ≤ z 191 ∧ z 191 ≤ 50 := g
  rw [← li_e (x := z 191) (inn (by omega) (by omega))]
  exact n_setting I (v := 1) (inn (by omega) (by omega)) (by omega) lI1
end ASKS64
