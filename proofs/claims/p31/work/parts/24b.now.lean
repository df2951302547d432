/-! the law's numbers -/
theorem li_32 (x : Int) : (li x).toInt32 = iI x := Int32.toInt32_toInt64 _
theorem li_t {x : Int} (hx : InR x) : (li x).toInt = x := iI64 hx
theorem cmp_s (x : Int64) : lg_cmp x x = 0 := by
  unfold lg_cmp
  rw [if_neg (fun q => by rw [gt_iff_lt, Int64.lt_iff_toInt_lt] at q; omega), if_pos rfl]
theorem cmp_0 {x y : Int64} : lg_cmp x y = 0 ↔ x = y := by
  constructor
  · intro h
    unfold lg_cmp at h
    split at h
    · exact absurd h (by decide)
    · split at h
      · assumption
      · exact absurd h (by decide)
  · rintro rfl
    exact cmp_s x
theorem cmp_lt {x y : Int64} : lg_cmp x y < 0 ↔ x.toInt < y.toInt := by
  unfold lg_cmp
  by_cases h : x > y
  · rw [if_pos h]
    rw [gt_iff_lt, Int64.lt_iff_toInt_lt] at h
    exact ⟨fun q => absurd q (by decide), fun q => by omega⟩
  · rw [if_neg h]
    rw [gt_iff_lt, Int64.lt_iff_toInt_lt] at h
    by_cases e : x = y
    · subst e
      rw [if_pos rfl]
      exact ⟨fun q => absurd q (by decide), fun q => by omega⟩
    · rw [if_neg e]
      have : x.toInt ≠ y.toInt := fun q => e (Int64.toInt_inj.mp q)
      exact ⟨fun _ => by omega, fun _ => by decide⟩
theorem cmp_gt {x y : Int64} : 0 < lg_cmp x y ↔ y.toInt < x.toInt := by
  unfold lg_cmp
  by_cases h : x > y
  · rw [if_pos h]
    rw [gt_iff_lt, Int64.lt_iff_toInt_lt] at h
    exact ⟨fun _ => h, fun _ => by decide⟩
  · rw [if_neg h]
    rw [gt_iff_lt, Int64.lt_iff_toInt_lt] at h
    by_cases e : x = y
    · subst e
      rw [if_pos rfl]
      exact ⟨fun q => absurd q (by decide), fun q => by omega⟩
    · rw [if_neg e]
      exact ⟨fun q => absurd q (by decide), fun q => by omega⟩
theorem cmp_ge {x y : Int64} : 0 ≤ lg_cmp x y ↔ y.toInt ≤ x.toInt := by
  unfold lg_cmp
  by_cases h : x > y
  · rw [if_pos h]
    rw [gt_iff_lt, Int64.lt_iff_toInt_lt] at h
    exact ⟨fun _ => by omega, fun _ => by decide⟩
  · rw [if_neg h]
    rw [gt_iff_lt, Int64.lt_iff_toInt_lt] at h
    by_cases e : x = y
    · subst e
      rw [if_pos rfl]
      exact ⟨fun _ => by omega, fun _ => by decide⟩
    · rw [if_neg e]
      have : x.toInt ≠ y.toInt := fun q => e (Int64.toInt_inj.mp q)
      exact ⟨fun q => absurd q (by decide), fun q => by omega⟩
theorem cmp_le {x y : Int64} : lg_cmp x y ≤ 0 ↔ x.toInt ≤ y.toInt := by
  unfold lg_cmp
  by_cases h : x > y
  · rw [if_pos h]
    rw [gt_iff_lt, Int64.lt_iff_toInt_lt] at h
    exact ⟨fun q => absurd q (by decide), fun q => by omega⟩
  · rw [if_neg h]
    rw [gt_iff_lt, Int64.lt_iff_toInt_lt] at h
    by_cases e : x = y
    · subst e
      rw [if_pos rfl]
      exact ⟨fun _ => by omega, fun _ => by decide⟩
    · rw [if_neg e]
      exact ⟨fun _ => by omega, fun _ => by decide⟩
/-- a call whose answer is the number that is looked for -/
theorem stp {α : Type} {o : Option (Int64 × HP)} {v c : Int64} {h : HP} {f g : Int64 × HP → Option α} {R : Option α} (e : o = some (v, h)) (q : v = c) (k : f (v, h) = R) : (o.bind fun w => if lg_cmp w.1 c = 0 then f w else g w) = R := by
  rw [e, Option.bind_some]
  show (if lg_cmp v c = 0 then f (v, h) else g (v, h)) = R
  rw [if_pos (cmp_0.mpr q)]
  exact k
theorem stq {α : Type} {o : Option (Int64 × HP)} {v : Int64} {h : HP} {f : Int64 × HP → Option α} {R : Option α} (e : o = some (v, h)) (k : f (v, h) = R) : o.bind f = R := by
  rw [e, Option.bind_some]
  exact k
/-! now: one number of all that is told; it is a function of the row -/
noncomputable def nw1 (z : Nat → Int) : Nat → Int → Int64 → Int64
  | 0, _, y => y
  | n + 1, k, y => nw1 z n (k + 1) (31 * y + li (aboF z k) + (if 6 ≤ k then 0 else 97 * li (setF z k)))
noncomputable def nw2i (z : Nat → Int) (w : Nat) : Nat → Int → Int64 → Int64
  | 0, _, y => y
  | n + 1, m, y => nw2i z w n (m + 1) (31 * y + 97 * li (mofF z w m.toNat 0) + li (mofF z w m.toNat 2))
noncomputable def nw2o (z : Nat → Int) : Nat → Nat → Int64 → Int64
  | 0, _, y => y
  | n + 1, w, y => nw2o z n (w + 1) (nw2i z w (z (31 * w)).toNat 0 (31 * y + li (wofF z w 0)))
noncomputable def nw3i (z : Nat → Int) (d : Nat) : Nat → Int → Int64 → Int64
  | 0, _, y => y
  | n + 1, k, y => nw3i z d n (k + 1) (31 * y + li (dofF z d k))
noncomputable def nw3o (z : Nat → Int) : Nat → Nat → Int64 → Int64
  | 0, _, y => y
  | n + 1, d, y => nw3o z n (d + 1) (nw3i z d 12 0 y)
noncomputable def nowV (z : Nat → Int) : Int64 := nw3o z (z 185).toNat 0 (nw2o z (z 184).toNat 0 (nw1 z 14 0 149))
section NOW
variable {h : HP} {z : Nat → Int} {B : Int} {A : (Nat → Nat → Int) × Nat × (Nat → Bool) × (Nat → Nat → Int) × (Nat → Int) × Nat}
theorem CI.wf (I : CI B h (z, A)) : WF z := I.1.2.2.1
theorem CI.n4 (I : CI B h (z, A)) : 0 ≤ z 184 ∧ z 184 ≤ 4 := I.1.2.2.1.1
theorem CI.d10 (I : CI B h (z, A)) : 0 ≤ z 185 ∧ z 185 ≤ 10 := I.1.2.2.1.2.1
theorem inn {x : Int} (h1 : -1000000 ≤ x) (h2 : x ≤ 1000000) : InR x := ⟨by omega, by omega⟩
theorem ii64 {x : Int} (hx : InR x) : (iI x).toInt64.toInt = x := iI64 hx
theorem now_3i (I : CI B h (z, A)) (K : Nat → Int64 → Int32 → HP → Option (Int64 × HP)) {d : Nat} (hd : (d : Int) < z 185) : ∀ (n : Nat) (k : Int) (fu : Nat) (y : Int64), k + n = 12 → n < fu → 0 ≤ k → f_Q_now_148 K fu 180 y (iI d) (iI k) h = K 180 (nw3i z d n k y) (iI d + 1) h := by
  have hd10 := I.d10
  intro n
  induction n with
  | zero =>
    intro k fu y hk hf h0
    obtain ⟨fu, rfl⟩ : ∃ j, fu = j + 1 := ⟨fu - 1, by omega⟩
    rw [f_Q_now_148, lI12, tLe (by omega) (by omega) (by omega) (by omega), if_pos (by omega)]
    rfl
  | succ n ih =>
    intro k fu y hk hf h0
    obtain ⟨fu, rfl⟩ : ∃ j, fu = j + 1 := ⟨fu - 1, by omega⟩
    rw [f_Q_now_148, lI12, tLe (by omega) (by omega) (by omega) (by omega), if_neg (by omega), n_dealerOf I (x := (d : Int)) (v := k) (inn (by omega) (by omega)) (inn (by omega) (by omega)) ⟨by omega, hd⟩ (by omega) rfl rfl, Option.bind_some]
    dsimp only
    rw [lI1, iI_add]
    exact ih (k + 1) fu _ (by omega) (by omega) (by omega)
theorem now_3o (I : CI B h (z, A)) : ∀ (n d fu : Nat) (y : Int64), (d : Int) + n = z 185 → n < fu → f_Q_now_134 fu 180 y (iI d) h = some (nw3o z n d y, h) := by
  have hd10 := I.d10
  intro n
  induction n with
  | zero =>
    intro d fu y hk hf
    obtain ⟨fu, rfl⟩ : ∃ j, fu = j + 1 := ⟨fu - 1, by omega⟩
    rw [f_Q_now_134, n_about I (v := 1) (inn (by omega) (by omega)) (by omega) lI1, Option.bind_some]
    dsimp only
    rw [if_pos (cmp_ge.mpr (by rw [li_t (inn (by show -1000000 ≤ z 185; omega) (by show z 185 ≤ 1000000; omega)), ii64 (inn (by omega) (by omega))]; show z 185 ≤ (d : Int); omega))]
    rfl
  | succ n ih =>
    intro d fu y hk hf
    obtain ⟨fu, rfl⟩ : ∃ j, fu = j + 1 := ⟨fu - 1, by omega⟩
    rw [f_Q_now_134, n_about I (v := 1) (inn (by omega) (by omega)) (by omega) lI1, Option.bind_some]
    dsimp only
    rw [if_neg (fun q => by
      have q := cmp_ge.mp q
      rw [li_t (inn (by show -1000000 ≤ z 185; omega) (by show z 185 ≤ 1000000; omega)), ii64 (inn (by omega) (by omega))] at q
      have q : z 185 ≤ (d : Int) := q
      omega), lI0, now_3i I (f_Q_now_134 fu) (d := d) (by omega) 12 0 4096 y (by omega) (by omega) (by omega)]
    rw [lI1, iI_add, show (d : Int) + 1 = ((d + 1 : Nat) : Int) by omega]
    exact ih (d + 1) fu _ (by omega) (by omega)
theorem now_2i (I : CI B h (z, A)) (K : Nat → Int64 → Int32 → HP → Option (Int64 × HP)) {w : Nat} (hw : (w : Int) < z 184) : ∀ (n : Nat) (m : Int) (fu : Nat) (y : Int64), m + n = z (31 * w) → n < fu → 0 ≤ m → f_Q_now_83 K fu 180 y (iI w) (li (z (31 * w))) (iI m) h = K 180 (nw2i z w n m y) (iI w + 1) h := by
  have hn4 := I.n4
  have hL := I.wf.2.2.2.1 w (by omega)
  intro n
  induction n with
  | zero =>
    intro m fu y hk hf h0
    obtain ⟨fu, rfl⟩ : ∃ j, fu = j + 1 := ⟨fu - 1, by omega⟩
    rw [f_Q_now_83, if_pos (cmp_ge.mpr (by rw [li_t (inn (by omega) (by omega)), ii64 (inn (by omega) (by omega))]; omega)), lI1]
    rfl
  | succ n ih =>
    intro m fu y hk hf h0
    obtain ⟨fu, rfl⟩ : ∃ j, fu = j + 1 := ⟨fu - 1, by omega⟩
    have cm : 0 ≤ (w : Int) ∧ (w : Int) < z 184 ∧ 0 ≤ m ∧ m < z (31 * (w : Int).toNat) := ⟨by omega, hw, h0, by rw [show (w : Int).toNat = w by omega]; omega⟩
    rw [f_Q_now_83, if_neg (fun q => by
      have q := cmp_ge.mp q
      rw [li_t (inn (by omega) (by omega)), ii64 (inn (by omega) (by omega))] at q
      omega), n_metreOf I (x := (w : Int)) (y := m) (v := 0) (inn (by omega) (by omega)) (inn (by omega) (by omega)) (inn (by omega) (by omega)) cm (by omega) rfl rfl lI0, Option.bind_some]
    dsimp only
    rw [n_metreOf I (x := (w : Int)) (y := m) (v := 2) (inn (by omega) (by omega)) (inn (by omega) (by omega)) (inn (by omega) (by omega)) cm (by omega) rfl rfl lI2, Option.bind_some]
    dsimp only
    rw [lI1, iI_add]
    exact ih (m + 1) fu _ (by omega) (by omega) (by omega)
theorem now_2o (I : CI B h (z, A)) : ∀ (n w fu : Nat) (y : Int64), (w : Int) + n = z 184 → n < fu → f_Q_now_52 fu 180 y (iI w) h = some (nw3o z (z 185).toNat 0 (nw2o z n w y), h) := by
  have hn4 := I.n4
  have hd10 := I.d10
  intro n
  induction n with
  | zero =>
    intro w fu y hk hf
    obtain ⟨fu, rfl⟩ : ∃ j, fu = j + 1 := ⟨fu - 1, by omega⟩
    rw [f_Q_now_52, n_about I (v := 0) (inn (by omega) (by omega)) (by omega) lI0, Option.bind_some]
    dsimp only
    rw [if_pos (cmp_ge.mpr (by rw [li_t (inn (by show -1000000 ≤ z 184; omega) (by show z 184 ≤ 1000000; omega)), ii64 (inn (by omega) (by omega))]; show z 184 ≤ (w : Int); omega)), lI0]
    exact now_3o I (z 185).toNat 0 4096 y (by omega) (by omega)
  | succ n ih =>
    intro w fu y hk hf
    obtain ⟨fu, rfl⟩ : ∃ j, fu = j + 1 := ⟨fu - 1, by omega⟩
    have hL := I.wf.2.2.2.1 w (by omega)
    rw [f_Q_now_52, n_about I (v := 0) (inn (by omega) (by omega)) (by omega) lI0, Option.bind_some]
    dsimp only
    rw [if_neg (fun q => by
      have q := cmp_ge.mp q
      rw [li_t (inn (by show -1000000 ≤ z 184; omega) (by show z 184 ≤ 1000000; omega)), ii64 (inn (by omega) (by omega))] at q
      have q : z 184 ≤ (w : Int) := q
      omega), n_wallOf I (x := (w : Int)) (v := 0) (inn (by omega) (by omega)) (inn (by omega) (by omega)) ⟨by omega, by omega⟩ (by omega) rfl lI0, Option.bind_some]
    dsimp only
    rw [lI0]
    show f_Q_now_83 (f_Q_now_52 fu) 4096 180 (31 * y + li (wofF z w 0)) (iI w) (li (z (31 * w))) (iI 0) h = _
    rw [now_2i I (f_Q_now_52 fu) (w := w) (by omega) (z (31 * w)).toNat 0 4096 _ (by omega) (by omega) (by omega)]
    rw [lI1, iI_add, show (w : Int) + 1 = ((w + 1 : Nat) : Int) by omega]
    exact ih (w + 1) fu _ (by omega) (by omega)
theorem now_1 (I : CI B h (z, A)) : ∀ (n : Nat) (k : Int) (fu : Nat) (y : Int64), k + n = 14 → n < fu → 0 ≤ k → f_Q_now_6 fu 180 y (iI k) h = some (nw3o z (z 185).toNat 0 (nw2o z (z 184).toNat 0 (nw1 z n k y)), h) := by
  have hn4 := I.n4
  intro n
  induction n with
  | zero =>
    intro k fu y hk hf h0
    obtain ⟨fu, rfl⟩ : ∃ j, fu = j + 1 := ⟨fu - 1, by omega⟩
    rw [f_Q_now_6, lI14, tLe (by omega) (by omega) (by omega) (by omega), if_pos (by omega), lI0]
    exact now_2o I (z 184).toNat 0 4096 y (by omega) (by omega)
  | succ n ih =>
    intro k fu y hk hf h0
    obtain ⟨fu, rfl⟩ : ∃ j, fu = j + 1 := ⟨fu - 1, by omega⟩
    rw [f_Q_now_6, lI14, tLe (by omega) (by omega) (by omega) (by omega), if_neg (by omega), n_about I (v := k) (inn (by omega) (by omega)) (by omega) rfl, Option.bind_some]
    dsimp only
    rw [lI6, tLe (by omega) (by omega) (by omega) (by omega)]
    by_cases c : 6 ≤ k
    · rw [if_pos c, f_Q_now_42, lI1, iI_add]
      have e := ih (k + 1) fu (31 * y + li (aboF z k) + 0) (by omega) (by omega) (by omega)
      rw [e]
      rw [nw1, if_pos c]
    · rw [if_neg c, n_setting I (v := k) (inn (by omega) (by omega)) (by omega) rfl, Option.bind_some]
      dsimp only
      rw [f_Q_now_42, lI1, iI_add]
      have e := ih (k + 1) fu (31 * y + li (aboF z k) + 97 * li (setF z k)) (by omega) (by omega) (by omega)
      rw [e]
      rw [nw1, if_neg c]
theorem w_now (I : CI B h (z, A)) : f_Q_now h 180 = some (nowV z, h) := by
  unfold f_Q_now
  rw [lI0]
  exact now_1 I 14 0 4096 149 (by omega) (by omega) (by omega)
end NOW
