/-! days, on both sides -/
noncomputable def dyA (z : Nat → Int) (n : Int) (d : Nat) : Nat → Int := fun i => if 124 ≤ i ∧ i < 184 ∧ i % 6 = 3 ∧ (i - 129) / 6 < d then z i + n * rentZ z ((i - 129) / 6) else z i
noncomputable def day1 (z : Nat → Int) : Nat → Int := uI (uI (dyA z 1 (z 185).toNat) 186 (z 186 + 1)) 187 0
noncomputable def dysZ (z : Nat → Int) (k : Nat) : Nat → Int := uI (uI (dyA z k (z 185).toNat) 186 (z 186 + k)) 187 (if k = 0 then z 187 else 0)
noncomputable def rtsZ (z : Nat → Int) : Int := sm (fun d => rentZ z d) (z 185).toNat 0
noncomputable def zdy (z : Nat → Int) (k : Nat) : Nat → Int := uI (dysZ z k) 189 (z 189 + k * rtsZ z)
section DAYS
variable {h : HP} {a b p : Nat} {z : Nat → Int}
theorem dyA_n (z : Nat → Int) (n : Int) (d : Nat) {i : Nat} (h : i < 124 ∨ 184 ≤ i ∨ i % 6 ≠ 3) : dyA z n d i = z i := if_neg (by omega)
theorem dyA_o (z : Nat → Int) (n : Int) {d e : Nat} (he : e < 10) (h : d ≤ e) : dyA z n d (129 + 6 * e) = z (129 + 6 * e) := if_neg (by omega)
theorem dyA_y (z : Nat → Int) (n : Int) {d e : Nat} (he : e < 10) (h : e < d) : dyA z n d (129 + 6 * e) = z (129 + 6 * e) + n * rentZ z e := by
  unfold dyA
  rw [if_pos (by omega), show (129 + 6 * e - 129) / 6 = e by omega]
theorem dyA_0 (z : Nat → Int) (n : Int) : dyA z n 0 = z := by
  funext i
  exact if_neg (by omega)
theorem dyA_z (z : Nat → Int) (d : Nat) : dyA z 0 d = z := by
  funext i
  unfold dyA
  split
  · rw [Int.zero_mul, Int.add_zero]
  · rfl
theorem dyA_s (z : Nat → Int) (n : Int) {d : Nat} (hd : d < 10) : dyA z n (d + 1) = uI (dyA z n d) (129 + 6 * d) (z (129 + 6 * d) + n * rentZ z d) := by
  funext i
  by_cases c : i = 129 + 6 * d
  · rw [c, uI_s, dyA_y z n hd (by omega)]
  · rw [uI_n _ _ c]
    unfold dyA
    by_cases q : 124 ≤ i ∧ i < 184 ∧ i % 6 = 3 ∧ (i - 129) / 6 < d
    · rw [if_pos q, if_pos (by omega)]
    · rw [if_neg q, if_neg (by omega)]
theorem dyA_l (z : Nat → Int) (n : Int) (d : Nat) : Lite z (dyA z n d) := fun k h1 h2 h3 => dyA_n z n d (by omega)
theorem dysZ_l (z : Nat → Int) (n : Nat) : Lite z (dysZ z n) := fun k h1 h2 h3 => by
  unfold dysZ
  rw [uI_n _ _ (by omega), uI_n _ _ (by omega), dyA_n z n _ (by omega)]
theorem zdy_l (z : Nat → Int) (n : Nat) : Lite z (zdy z n) := fun k h1 h2 h3 => by
  unfold zdy
  rw [uI_n _ _ (by omega)]
  exact dysZ_l z n k h1 h2 h3
theorem dysZ_w (F : WF z) (n : Nat) : WF (dysZ z n) := (dysZ_l z n).wf F (by
  have := F.2.2.1
  unfold dysZ
  rw [uI_s]
  split <;> omega)
theorem zdy_w (F : WF z) (n : Nat) : WF (zdy z n) := (zdy_l z n).wf F (by
  have := (dysZ_w F n).2.2.1
  unfold zdy
  rw [uI_n _ _ (by decide)]
  exact this)
theorem dysZ_0 (z : Nat → Int) : dysZ z 0 = z := by
  unfold dysZ
  rw [show ((0 : Nat) : Int) = 0 from rfl, dyA_z, Int.add_zero, if_pos rfl]
  funext i
  by_cases c : i = 187
  · rw [c, uI_s]
  · rw [uI_n _ _ c]
    by_cases q : i = 186
    · rw [q, uI_s]
    · rw [uI_n _ _ q]
theorem day1_s (F : WF z) (k : Nat) : day1 (dysZ z k) = dysZ z (k + 1) := by
  obtain ⟨-, ⟨n1, n2⟩, -⟩ := id F
  have L := dysZ_l z k
  have e185 := L 185 (by omega) (by omega) (by omega)
  funext i
  unfold day1
  rw [e185]
  by_cases c : i = 187
  · rw [c, uI_s]; unfold dysZ; rw [uI_s, if_neg (by omega)]
  · rw [uI_n _ _ c]
    by_cases q : i = 186
    · rw [q, uI_s]; unfold dysZ; rw [uI_n _ _ (by decide), uI_s, uI_n _ _ (by decide), uI_s]; omega
    · rw [uI_n _ _ q]
      have e1 : dysZ z (k + 1) i = dyA z ((k + 1 : Nat) : Int) (z 185).toNat i := by unfold dysZ; rw [uI_n _ _ c, uI_n _ _ q]
      have e2 : dysZ z k i = dyA z (k : Int) (z 185).toNat i := by unfold dysZ; rw [uI_n _ _ c, uI_n _ _ q]
      rw [e1]
      by_cases g : 124 ≤ i ∧ i < 184 ∧ i % 6 = 3 ∧ (i - 129) / 6 < (z 185).toNat
      · have ei : i = 129 + 6 * ((i - 129) / 6) := by omega
        have hr := L.rent F (d := (i - 129) / 6) (by omega) (by omega)
        unfold dyA
        rw [if_pos g, if_pos g, hr, e2]
        unfold dyA
        rw [if_pos g, Int.add_assoc]
        congr 1
        rw [← Int.add_mul]
        rfl
      · unfold dyA
        rw [if_neg g, if_neg g, e2]
        unfold dyA
        rw [if_neg g]
theorem dysZ_e (z : Nat → Int) {n : Nat} (hn : n ≠ 0) {d : Nat} (hd : d = (z 185).toNat) : uI (uI (dyA z n d) 186 (dyA z n d 186 + n)) 187 0 = dysZ z n := by
  unfold dysZ
  rw [hd, if_neg hn, dyA_n z n _ (by decide)]
theorem a_days1 (S : FS a b p) (F : WF z) {n : Nat} (hn : n ≤ 60) (h0 : n ≠ 0) : ∀ (m d fu : Nat) (acc : Int) (h : HP), (d : Int) + m = z 185 → m < fu → RepS h b (dyA z n d) → RepPw h p (shareZ z) → ∃ h' : HP, f_A_passDays_16 fu a (iI n) (iI acc) (iI d) h = some (iI (acc + n * sm (fun d => rentZ z d) m d), h') ∧ RepS h' b (dysZ z n) ∧ RepPw h' p (shareZ z) ∧ (∀ i, ¬ (b ≤ i ∧ i < b + 10) → h' i = h i) ∧ h' b 13 = h b 13 := by
  obtain ⟨-, ⟨n1, n2⟩, g3, -⟩ := id F
  have hp : p = 184 ∨ p = 188 := S.ps
  have hb := S.bs.1
  have hb2 := S.bs.2
  intro m
  induction m with
  | zero =>
    intro d fu acc h hd hfu R RP
    obtain ⟨fu, rfl⟩ : ∃ k, fu = k + 1 := ⟨fu - 1, by omega⟩
    have e10 : h b 10 = iI (z 185) := by rw [R.nd, dyA_n z n _ (by decide)]
    have e11 : h b 11 = iI (dyA z n d 186) := R.1.2.2.1
    have R1 := (R.setB (s := 11) (i := 186) (Or.inr (Or.inl ⟨rfl, rfl⟩)) (dyA z n d 186 + n)).setB (s := 12) (i := 187) (Or.inr (Or.inr ⟨rfl, rfl⟩)) 0
    rw [dysZ_e z h0 (by omega)] at R1
    rw [f_A_passDays_16, S.f0, e10, tLe (by omega) (by omega) (by omega) (by omega), if_pos (by omega), f_A_passDays_67, S.f0, e11, iI_add, Option.bind_some, Option.bind_some, lI0]
    refine ⟨_, by show some (iI acc, _) = some (iI (acc + n * 0), _); rw [Int.mul_zero, Int.add_zero], R1, ⟨fun i hi => ?_, fun d hd => ?_, fun d k hd hk hlt => ?_⟩, fun i hi => ?_, ?_⟩
    · rw [hset_n _ _ _ (by omega), hset_n _ _ _ (by omega)]; exact RP.1 i hi
    · rw [hset_n _ _ _ (by omega), hset_n _ _ _ (by omega)]; exact RP.2.1 d hd
    · rw [hset_n _ _ _ (by omega), hset_n _ _ _ (by omega)]; exact RP.2.2 d k hd hk hlt
    · rw [hset_n _ _ _ (by omega), hset_n _ _ _ (by omega)]
    · rw [hset_s, upd_n _ _ (by decide), hset_s, upd_n _ _ (by decide)]
  | succ m ih =>
    intro d fu acc h hd hfu R RP
    obtain ⟨fu, rfl⟩ : ∃ k, fu = k + 1 := ⟨fu - 1, by omega⟩
    have hd10 : d < 10 := by omega
    have h2 : (d : Int) < z 185 := by omega
    have L := dyA_l z n d
    have F' : WF (dyA z n d) := L.wf F (by rw [dyA_n z n _ (by decide)]; exact g3)
    have e185 : dyA z n d 185 = z 185 := dyA_n z n _ (by decide)
    have e10 : h b 10 = iI (z 185) := by rw [R.nd, e185]
    have hR := rent_b F hd10
    have RP' : RepPw h p (shareZ (dyA z n d)) := by rw [L.share F]; exact RP
    have er := a_rent S R RP' F' hd10 (by rw [e185]; exact h2)
    rw [L.rent F hd10 h2] at er
    have e8 : h (b + 1 + 7) d = iI (z (129 + 6 * d)) := by
      rw [show b + 1 + 7 = b + 3 + 5 by omega, R.dl 5 hd10 (by rw [e185]; exact h2) (by decide), show 124 + 6 * d + 5 = 129 + 6 * d by omega, dyA_o z n hd10 (Nat.le_refl _)]
    have R1 := R.setD (d := d) (k := 5) (i := 129 + 6 * d) hd10 (by decide) (by omega) (z (129 + 6 * d) + n * rentZ z d)
    rw [← dyA_s z n hd10] at R1
    obtain ⟨h', g1, g2, g3, g4, g5⟩ := ih (d + 1) fu (acc + n * rentZ z d) (hset h (b + 3 + 5) d (iI (z (129 + 6 * d) + n * rentZ z d))) (by omega) (by omega) R1 ⟨fun i hi => by rw [hset_n _ _ _ (by omega)]; exact RP.1 i hi, fun d hd => by rw [hset_n _ _ _ (by omega)]; exact RP.2.1 d hd, fun d k hd hk hlt => by rw [hset_n _ _ _ (by omega)]; exact RP.2.2 d k hd hk hlt⟩
    refine ⟨h', ?_, g2, g3, fun i hi => ?_, ?_⟩
    · rw [f_A_passDays_16, S.f0, e10, tLe (by omega) (by omega) (by omega) (by omega), if_neg (by omega), lI10, tLe (by omega) (by omega) (by omega) (by omega), if_neg (by omega), er, Option.bind_some, e2_ hd10, if_pos rfl, if_pos rfl, e1_ hd10, S.bs.fld, e8, iI_mul, iI_add, iI_add, Option.bind_some, lI1, iI_add, show b + 1 + 7 = b + 3 + 5 by omega, show (d : Int) + 1 = ((d + 1 : Nat) : Int) by omega, g1]
      show some (iI (acc + n * rentZ z d + n * sm (fun d => rentZ z d) m (d + 1)), h') = some (iI (acc + n * (rentZ z d + sm (fun d => rentZ z d) m (d + 1))), h')
      rw [Int.mul_add, Int.add_assoc]
    · have n8 : i ≠ b + 3 + 5 := fun q => hi (by omega)
      rw [g4 i hi, hset_n _ _ _ n8]
    · rw [g5, hset_n _ _ _ (by omega)]
theorem a_passDays (RA : RepA h a b p z) {n : Nat} (hn : n ≤ 60) (h0 : n ≠ 0) : ∃ h' : HP, f_A_passDays h a (iI n) = some (iI (n * rtsZ z), h') ∧ RepA h' a b p (zdy z n) ∧ (∀ i, ¬ own b p i → h' i = h i) ∧ h' b 13 = h b 13 := by
  obtain ⟨S, R, RP, F⟩ := id RA
  obtain ⟨-, ⟨n1, n2⟩, -⟩ := id F
  obtain ⟨h', g1, g2, g3, g4, g5⟩ := a_days1 S F hn h0 (z 185).toNat 0 4096 0 h (by omega) (by omega) (by rw [dyA_0]; exact R) RP
  have c : 1 ≤ (n : Int) ∧ (n : Int) ≤ 60 := by omega
  have Fd := dysZ_w F n
  have RA' : RepA h' a b p (dysZ z n) := ⟨S, g2, by rw [(dysZ_l z n).share F]; exact g3, Fd⟩
  refine ⟨h', ?_, RA'.l89 (fun k h1 h2 h3 => by unfold zdy; rw [uI_n _ _ h3]), fun i hi => g4 i (fun q => hi (Or.inl q)), g5⟩
  unfold f_A_passDays
  rw [lI1, show (60 : Int32) = iI 60 from lI60, inRange ⟨by omega, by omega⟩ ⟨by decide, by decide⟩ ⟨by decide, by decide⟩, Option.bind_some, if_pos c, if_neg (by decide), lI0]
  rw [Int.zero_add] at g1
  exact g1
theorem rts_b (F : WF z) : 0 ≤ rtsZ z ∧ rtsZ z ≤ 7000 := by
  obtain ⟨-, ⟨n1, n2⟩, -⟩ := id F
  have : ∀ m i : Nat, i + m ≤ 10 → 0 ≤ sm (fun d => rentZ z d) m i ∧ sm (fun d => rentZ z d) m i ≤ m * 700 := by
    intro m
    induction m with
    | zero => intro i _; show (0 : Int) ≤ 0 ∧ (0 : Int) ≤ _; omega
    | succ m ih =>
      intro i hi
      have h1 := rent_b F (d := i) (by omega)
      have h2 := ih (i + 1) (by omega)
      show 0 ≤ rentZ z i + sm (fun d => rentZ z d) m (i + 1) ∧ rentZ z i + sm (fun d => rentZ z d) m (i + 1) ≤ _
      omega
  have h := this (z 185).toNat 0 (by omega)
  unfold rtsZ
  omega
end DAYS
