/-! the law answers 1, read off its functions: the two implementations agree on every script -/
section LAW
theorem it_t {α : Type} (x y : α) : (if true = true then x else y) = x := if_pos rfl
theorem upd_I {f : Nat → Int32} {z : Nat → Int} (e : ∀ k, f k = iI (z k)) (a : Nat) {x : Int32} {v : Int} (ex : x = iI v) : ∀ k, upd f a x k = iI (uI z a v k) := fun k => by
  by_cases c : k = a
  · rw [c, upd_s, uI_s, ex]
  · rw [upd_n _ _ c, uI_n _ _ c]
    exact e k
theorem inv_ini : INV 5040000 hIni := by
  have z1 : ∀ j, stF 1 j = 0 := fun j => by
    show (if j < 4 then (0 : Int32) else 0) = 0
    split <;> rfl
  have z2 : ∀ j, stF 2 j = 0 := fun j => by
    show (if j < 120 then (0 : Int32) else 0) = 0
    split <;> rfl
  have e185 : zini 185 = 0 := zini_0 (by decide)
  have R : RepS hIni 0 zini := by
    refine ⟨⟨?_, ?_, ?_, ?_⟩, fun w hw => ?_, fun w m hw hm => ?_, fun d k hd h2 hk => ?_, fun j hj => ?_⟩
    · rw [zini_0 (by decide)]; exact lI0
    · rw [zini_0 (by decide)]; exact lI0
    · rw [zini_0 (by decide)]; exact lI0
    · rw [zini_0 (by decide)]; exact lI0
    · rw [zini_0 (by omega)]
      show stF 1 w = iI 0
      rw [z1, lI0]
    · rw [zini_0 (by omega)]
      show stF 2 _ = iI 0
      rw [z2, lI0]
    · rw [e185] at h2; omega
    · rcases (by omega : j = 0 ∨ j = 1 ∨ j = 2 ∨ j = 3 ∨ j = 4 ∨ j = 5) with rfl | rfl | rfl | rfl | rfl | rfl <;> rfl
  have hsh : shareZ zini = (fun _ => 0, fun _ => 0, fun _ => -1) := by
    unfold shareZ
    rw [e185]
    rfl
  have RP : RepPw hIni 184 (shareZ zini) := by
    rw [hsh]
    exact ⟨fun i _ => lI0, fun d _ => lI0, fun d k _ _ hlt => by
      have q : (k : Int) < 0 := hlt
      omega⟩
  have RM : RepM hIni 201 zini := by
    have e0 : ∀ k, fil 196 0 zer k = iI ((fun _ => (0 : Int)) k) := fun k => by
      show (if k < 196 then (0 : Int32) else 0) = iI 0
      split <;> exact lI0
    have e := upd_I (upd_I (upd_I (upd_I (upd_I (upd_I e0 190 lI6) 191 lI1) 192 lI5) 193 lI3) 194 lI4) 195 lI2
    exact fun k _ => e k
  refine ⟨⟨zini, ⟨S2, R, RP, zini_wf⟩, RM, ?_, zini_ok (by decide)⟩, ⟨fun _ => zini, 0, 0, by decide, by decide, lI0, lI0, lI0, fun j hj => absurd hj (by omega)⟩, ⟨fun _ => zini, fun s hs => ⟨rfl, Or.inl rfl⟩⟩, ⟨fun _ => 0, 0, by decide, lI0, lI0, fun i hi => absurd hi (by omega)⟩⟩
  rw [zini_0 (by decide)]
  exact lI0
set_option maxHeartbeats 4000000 in
set_option maxRecDepth 20000 in
theorem law_all (L : Nat) (xs : Nat → Int32) (hL : L ≤ 2048) : ∀ (m k fu : Nat) (h : HP), m < fu → L ≤ 4 * (k + m) + 3 → k ≤ 600 → INV (5040000 + 42000 * (k : Int)) h → f_Q_law_23 L xs fu 180 200 211 (iI (4 * (k : Int))) h = some () := by
  intro m
  induction m with
  | zero =>
    intro k fu h hfu hLk hk I
    obtain ⟨fu, rfl⟩ : ∃ k, fu = k + 1 := ⟨fu - 1, by omega⟩
    have ec : (nI L) - (4 : Int32) < iI (4 * (k : Int)) := by
      rw [iI_nI, lI4, iI_sub, iI_lt (by omega) (by omega) (by omega) (by omega)]
      omega
    rw [f_Q_law_23, if_pos ec]
  | succ m ih =>
    intro k fu h hfu hLk hk I
    obtain ⟨fu, rfl⟩ : ∃ k, fu = k + 1 := ⟨fu - 1, by omega⟩
    by_cases c : (L : Int) - 4 < 4 * (k : Int)
    · have ec : (nI L) - (4 : Int32) < iI (4 * (k : Int)) := by
        rw [iI_nI, lI4, iI_sub, iI_lt (by omega) (by omega) (by omega) (by omega)]
        omega
      rw [f_Q_law_23, if_pos ec]
    · have ec : ¬ (nI L) - (4 : Int32) < iI (4 * (k : Int)) := by
        rw [iI_nI, lI4, iI_sub, iI_lt (by omega) (by omega) (by omega) (by omega)]
        omega
      have b0 : ib (iI (4 * (k : Int))) L = true := iI_ib (by omega) (by omega) (by omega)
      have b1 : ib (iI (4 * (k : Int)) + 1) L = true := by rw [lI1, iI_add]; exact iI_ib (by omega) (by omega) (by omega)
      have b2 : ib (iI (4 * (k : Int)) + 2) L = true := by rw [lI2, iI_add]; exact iI_ib (by omega) (by omega) (by omega)
      have b3 : ib (iI (4 * (k : Int)) + 3) L = true := by rw [lI3, iI_add]; exact iI_ib (by omega) (by omega) (by omega)
      have nx : ∀ h2, INV (5040000 + 42000 * (k : Int) + 42000) h2 → f_Q_law_23 L xs fu 180 200 211 (iI (4 * (k : Int)) + 4) h2 = some () := fun h2 I2 => by
        have q := ih (k + 1) fu h2 (by omega) (by omega) (by omega) (by
          rw [show 5040000 + 42000 * ((k + 1 : Nat) : Int) = 5040000 + 42000 * (k : Int) + 42000 by omega]
          exact I2)
        rw [lI4, iI_add, show 4 * (k : Int) + 4 = 4 * ((k + 1 : Nat) : Int) by omega]
        exact q
      rw [f_Q_law_23, if_neg ec, b0, if_pos rfl]
      clear ih ec
      generalize (xs (iI (4 * (k : Int))).toNatClampNeg) &&& (31 : Int32) = w
      by_cases k0 : w = 0
      · rw [if_pos k0]
        simp only [b1, it_t]
        obtain ⟨h2, I2, e⟩ := Ans.law (B := 5040000 + 42000 * (k : Int) + 42000) (Ans.mono (q_append I _) (by omega)) (fun g => f_Q_law_23 L xs fu 180 200 211 (iI (4 * (k : Int)) + 4) g)
        exact e.trans (nx h2 I2)
      rw [if_neg k0]
      by_cases k1 : w = 1
      · rw [if_pos k1]
        obtain ⟨x, h1, h2, e1, e2, I2⟩ := q_clear I
        rw [e1, Option.bind_some, e2, Option.bind_some, if_pos rfl]
        exact nx h2 (I2.mono (by omega))
      rw [if_neg k1]
      by_cases k2 : w = 2
      · rw [if_pos k2]
        obtain ⟨x, h1, h2, e1, e2, I2⟩ := q_errPos I
        rw [e1, Option.bind_some, e2, Option.bind_some, if_pos rfl]
        exact nx h2 (I2.mono (by omega))
      rw [if_neg k2]
      by_cases k3 : w = 3
      · rw [if_pos k3]
        obtain ⟨h2, I2, e⟩ := Ans.law (B := 5040000 + 42000 * (k : Int) + 42000) (Ans.mono (q_load I (by omega)) (by omega)) (fun g => f_Q_law_23 L xs fu 180 200 211 (iI (4 * (k : Int)) + 4) g)
        exact e.trans (nx h2 I2)
      rw [if_neg k3]
      by_cases k4 : w = 4
      · rw [if_pos k4]
        simp only [b1, it_t]
        obtain ⟨h2, I2, e⟩ := Ans.law (B := 5040000 + 42000 * (k : Int) + 42000) (Ans.mono (q_about I _) (by omega)) (fun g => f_Q_law_23 L xs fu 180 200 211 (iI (4 * (k : Int)) + 4) g)
        exact e.trans (nx h2 I2)
      rw [if_neg k4]
      by_cases k5 : w = 5
      · rw [if_pos k5]
        simp only [b1, b2, it_t]
        obtain ⟨h2, I2, e⟩ := Ans.law (B := 5040000 + 42000 * (k : Int) + 42000) (Ans.mono (q_wallOf I _ _) (by omega)) (fun g => f_Q_law_23 L xs fu 180 200 211 (iI (4 * (k : Int)) + 4) g)
        exact e.trans (nx h2 I2)
      rw [if_neg k5]
      by_cases k6 : w = 6
      · rw [if_pos k6]
        simp only [b1, b2, b3, it_t]
        obtain ⟨h2, I2, e⟩ := Ans.law (B := 5040000 + 42000 * (k : Int) + 42000) (Ans.mono (q_metreOf I _ _ _) (by omega)) (fun g => f_Q_law_23 L xs fu 180 200 211 (iI (4 * (k : Int)) + 4) g)
        exact e.trans (nx h2 I2)
      rw [if_neg k6]
      by_cases k7 : w = 7
      · rw [if_pos k7]
        simp only [b1, b2, it_t]
        obtain ⟨h2, I2, e⟩ := Ans.law (B := 5040000 + 42000 * (k : Int) + 42000) (Ans.mono (q_dealerOf I _ _) (by omega)) (fun g => f_Q_law_23 L xs fu 180 200 211 (iI (4 * (k : Int)) + 4) g)
        exact e.trans (nx h2 I2)
      rw [if_neg k7]
      by_cases k8 : w = 8
      · rw [if_pos k8]
        simp only [b1, b2, it_t]
        obtain ⟨h2, I2, e⟩ := Ans.law (B := 5040000 + 42000 * (k : Int) + 42000) (Ans.mono (q_plugOf I _ _) (by omega)) (fun g => f_Q_law_23 L xs fu 180 200 211 (iI (4 * (k : Int)) + 4) g)
        exact e.trans (nx h2 I2)
      rw [if_neg k8]
      by_cases k9 : w = 9
      · rw [if_pos k9]
        simp only [b1, it_t]
        obtain ⟨h2, I2, e⟩ := Ans.law (B := 5040000 + 42000 * (k : Int) + 42000) (Ans.mono (q_setting I _) (by omega)) (fun g => f_Q_law_23 L xs fu 180 200 211 (iI (4 * (k : Int)) + 4) g)
        exact e.trans (nx h2 I2)
      rw [if_neg k9]
      by_cases k10 : w = 10
      · rw [if_pos k10]
        simp only [b1, b2, it_t]
        obtain ⟨h2, I2, e⟩ := Ans.law (B := 5040000 + 42000 * (k : Int) + 42000) (Ans.mono (q_free I _ _) (by omega)) (fun g => f_Q_law_23 L xs fu 180 200 211 (iI (4 * (k : Int)) + 4) g)
        exact e.trans (nx h2 I2)
      rw [if_neg k10]
      by_cases k11 : w = 11
      · rw [if_pos k11]
        simp only [b1, it_t]
        obtain ⟨h2, I2, e⟩ := Ans.law (B := 5040000 + 42000 * (k : Int) + 42000) (Ans.mono (q_wall I _) (by omega)) (fun g => f_Q_law_23 L xs fu 180 200 211 (iI (4 * (k : Int)) + 4) g)
        exact e.trans (nx h2 I2)
      rw [if_neg k11]
      by_cases k12 : w = 12
      · rw [if_pos k12]
        simp only [b1, b2, b3, it_t]
        obtain ⟨h2, I2, e⟩ := Ans.law (B := 5040000 + 42000 * (k : Int) + 42000) (Ans.mono (q_outlet I _ _ _) (by omega)) (fun g => f_Q_law_23 L xs fu 180 200 211 (iI (4 * (k : Int)) + 4) g)
        exact e.trans (nx h2 I2)
      rw [if_neg k12]
      by_cases k13 : w = 13
      · rw [if_pos k13]
        simp only [b1, b2, b3, it_t]
        obtain ⟨h2, I2, e⟩ := Ans.law (B := 5040000 + 42000 * (k : Int) + 42000) (Ans.mono (q_dealer I _ _ _) (by omega)) (fun g => f_Q_law_23 L xs fu 180 200 211 (iI (4 * (k : Int)) + 4) g)
        exact e.trans (nx h2 I2)
      rw [if_neg k13]
      by_cases k14 : w = 14
      · rw [if_pos k14]
        simp only [b1, b2, b3, it_t]
        obtain ⟨h2, I2, e⟩ := Ans.law (B := 5040000 + 42000 * (k : Int) + 42000) (Ans.mono (q_place I _ _ _) (by omega)) (fun g => f_Q_law_23 L xs fu 180 200 211 (iI (4 * (k : Int)) + 4) g)
        exact e.trans (nx h2 I2)
      rw [if_neg k14]
      by_cases k15 : w = 15
      · rw [if_pos k15]
        simp only [b1, it_t]
        obtain ⟨h2, I2, e⟩ := Ans.law (B := 5040000 + 42000 * (k : Int) + 42000) (Ans.mono (q_leave I _) (by omega)) (fun g => f_Q_law_23 L xs fu 180 200 211 (iI (4 * (k : Int)) + 4) g)
        exact e.trans (nx h2 I2)
      rw [if_neg k15]
      by_cases k16 : w = 16
      · rw [if_pos k16]
        simp only [b1, b2, it_t]
        obtain ⟨h2, I2, e⟩ := Ans.law (B := 5040000 + 42000 * (k : Int) + 42000) (Ans.mono (q_swap I _ _) (by omega)) (fun g => f_Q_law_23 L xs fu 180 200 211 (iI (4 * (k : Int)) + 4) g)
        exact e.trans (nx h2 I2)
      rw [if_neg k16]
      by_cases k17 : w = 17
      · rw [if_pos k17]
        simp only [b1, it_t]
        obtain ⟨h2, I2, e⟩ := Ans.law (B := 5040000 + 42000 * (k : Int) + 42000) (Ans.mono (q_days I _) (by omega)) (fun g => f_Q_law_23 L xs fu 180 200 211 (iI (4 * (k : Int)) + 4) g)
        exact e.trans (nx h2 I2)
      rw [if_neg k17]
      by_cases k18 : w = 18
      · rw [if_pos k18]
        simp only [b1, b2, it_t]
        obtain ⟨h2, I2, e⟩ := Ans.law (B := 5040000 + 42000 * (k : Int) + 42000) (Ans.mono (q_set I _ _) (by omega)) (fun g => f_Q_law_23 L xs fu 180 200 211 (iI (4 * (k : Int)) + 4) g)
        exact e.trans (nx h2 I2)
      rw [if_neg k18]
      by_cases k19 : w = 19
      · rw [if_pos k19]
        obtain ⟨h2, I2, e⟩ := Ans.law (B := 5040000 + 42000 * (k : Int) + 42000) (Ans.mono (q_undo I) (by omega)) (fun g => f_Q_law_23 L xs fu 180 200 211 (iI (4 * (k : Int)) + 4) g)
        exact e.trans (nx h2 I2)
      rw [if_neg k19]
      by_cases k20 : w = 20
      · rw [if_pos k20]
        simp only [b1, b2, b3, it_t]
        obtain ⟨h2, I2, e⟩ := Ans.law (B := 5040000 + 42000 * (k : Int) + 42000) (Ans.mono (q_rentIf I _ _ _) (by omega)) (fun g => f_Q_law_23 L xs fu 180 200 211 (iI (4 * (k : Int)) + 4) g)
        exact e.trans (nx h2 I2)
      rw [if_neg k20]
      by_cases k21 : w = 21
      · rw [if_pos k21]
        simp only [b1, b2, it_t]
        obtain ⟨h2, I2, e⟩ := Ans.law (B := 5040000 + 42000 * (k : Int) + 42000) (Ans.mono (q_cheapest I _ _) (by omega)) (fun g => f_Q_law_23 L xs fu 180 200 211 (iI (4 * (k : Int)) + 4) g)
        exact e.trans (nx h2 I2)
      rw [if_neg k21]
      by_cases k22 : w = 22
      · rw [if_pos k22]
        simp only [b1, it_t]
        obtain ⟨h2, I2, e⟩ := Ans.law (B := 5040000 + 42000 * (k : Int) + 42000) (Ans.mono (q_bestSwap I _) (by omega)) (fun g => f_Q_law_23 L xs fu 180 200 211 (iI (4 * (k : Int)) + 4) g)
        exact e.trans (nx h2 I2)
      rw [if_neg k22]
      by_cases k23 : w = 23
      · rw [if_pos k23]
        simp only [b1, b2, it_t]
        obtain ⟨h2, I2, e⟩ := Ans.law (B := 5040000 + 42000 * (k : Int) + 42000) (Ans.mono (q_why I _ _) (by omega)) (fun g => f_Q_law_23 L xs fu 180 200 211 (iI (4 * (k : Int)) + 4) g)
        exact e.trans (nx h2 I2)
      rw [if_neg k23]
      by_cases k24 : w = 24
      · rw [if_pos k24]
        simp only [b1, b2, b3, it_t]
        obtain ⟨h2, I2, e⟩ := Ans.law (B := 5040000 + 42000 * (k : Int) + 42000) (Ans.mono (q_runScript I (by omega) _ _) (by omega)) (fun g => f_Q_law_23 L xs fu 180 200 211 (iI (4 * (k : Int)) + 4) g)
        exact e.trans (nx h2 I2)
      rw [if_neg k24]
      by_cases k25 : w = 25
      · rw [if_pos k25]
        simp only [b1, b2, b3, it_t]
        obtain ⟨h2, I2, e⟩ := Ans.law (B := 5040000 + 42000 * (k : Int) + 42000) (Ans.mono (q_simulate I (by omega) _ _) (by omega)) (fun g => f_Q_law_23 L xs fu 180 200 211 (iI (4 * (k : Int)) + 4) g)
        exact e.trans (nx h2 I2)
      rw [if_neg k25]
      by_cases k26 : w = 26
      · rw [if_pos k26]
        simp only [b1, it_t]
        obtain ⟨h2, I2, e⟩ := Ans.law (B := 5040000 + 42000 * (k : Int) + 42000) (Ans.mono (q_save I _) (by omega)) (fun g => f_Q_law_23 L xs fu 180 200 211 (iI (4 * (k : Int)) + 4) g)
        exact e.trans (nx h2 I2)
      rw [if_neg k26]
      by_cases k27 : w = 27
      · rw [if_pos k27]
        simp only [b1, it_t]
        obtain ⟨h2, I2, e⟩ := Ans.law (B := 5040000 + 42000 * (k : Int) + 42000) (Ans.mono (q_restore I _) (by omega)) (fun g => f_Q_law_23 L xs fu 180 200 211 (iI (4 * (k : Int)) + 4) g)
        exact e.trans (nx h2 I2)
      rw [if_neg k27]
      exact nx h (I.mono (by omega))
theorem pure_law (L : Nat) (xs : Nat → Int32) (hL : L ≤ 2048) : f_Q_law_23 L xs 600 180 200 211 0 hIni = some () := by
  have q := law_all L xs hL 512 0 600 hIni (by omega) (by omega) (by omega) inv_ini
  exact q
end LAW
