/-! kept -/
section TESTS
variable {α : Type} {a b : Int} {x y R : α}
theorem i6 {x : Int} (h1 : -1000000000 ≤ x) (h2 : x ≤ 1000000000) : (i64 x).toInt = x := i64_t (by omega) (by omega)
theorem ix64 {x : Int} (h1 : -1000000000 ≤ x) (h2 : x ≤ 1000000000) : (iI x).toInt64 = i64 x := li_e ⟨by omega, by omega⟩
def Rg (x : Int) : Prop := -1000000000 ≤ x ∧ x ≤ 1000000000
theorem cgt (h1 : Rg a) (h2 : Rg b) : 0 < lg_cmp (i64 a) (i64 b) ↔ b < a := by rw [cmp_gt, i6 h1.1 h1.2, i6 h2.1 h2.2]
theorem clt (h1 : Rg a) (h2 : Rg b) : lg_cmp (i64 a) (i64 b) < 0 ↔ a < b := by rw [cmp_lt, i6 h1.1 h1.2, i6 h2.1 h2.2]
theorem cge (h1 : Rg a) (h2 : Rg b) : 0 ≤ lg_cmp (i64 a) (i64 b) ↔ b ≤ a := by rw [cmp_ge, i6 h1.1 h1.2, i6 h2.1 h2.2]
theorem cle (h1 : Rg a) (h2 : Rg b) : lg_cmp (i64 a) (i64 b) ≤ 0 ↔ a ≤ b := by rw [cmp_le, i6 h1.1 h1.2, i6 h2.1 h2.2]
theorem ceq (h1 : Rg a) (h2 : Rg b) : lg_cmp (i64 a) (i64 b) = 0 ↔ a = b := by rw [cmp_0, i64_i h1.1 h1.2 h2.1 h2.2]
theorem tif_p {c : Prop} [Decidable c] (h : c) (k : x = R) : (if c then x else y) = R := by rw [if_pos h]; exact k
theorem tif_n {c : Prop} [Decidable c] (h : ¬ c) (k : y = R) : (if c then x else y) = R := by rw [if_neg h]; exact k
theorem tgt_n (h1 : Rg a) (h2 : Rg b) (h : ¬ b < a) (k : y = R) : (if 0 < lg_cmp (i64 a) (i64 b) then x else y) = R := tif_n (mt (cgt h1 h2).mp h) k
theorem tgt_p (h1 : Rg a) (h2 : Rg b) (h : b < a) (k : x = R) : (if 0 < lg_cmp (i64 a) (i64 b) then x else y) = R := tif_p ((cgt h1 h2).mpr h) k
theorem tlt_n (h1 : Rg a) (h2 : Rg b) (h : ¬ a < b) (k : y = R) : (if lg_cmp (i64 a) (i64 b) < 0 then x else y) = R := tif_n (mt (clt h1 h2).mp h) k
theorem tlt_p (h1 : Rg a) (h2 : Rg b) (h : a < b) (k : x = R) : (if lg_cmp (i64 a) (i64 b) < 0 then x else y) = R := tif_p ((clt h1 h2).mpr h) k
theorem tge_n (h1 : Rg a) (h2 : Rg b) (h : ¬ b ≤ a) (k : y = R) : (if 0 ≤ lg_cmp (i64 a) (i64 b) then x else y) = R := tif_n (mt (cge h1 h2).mp h) k
theorem tge_p (h1 : Rg a) (h2 : Rg b) (h : b ≤ a) (k : x = R) : (if 0 ≤ lg_cmp (i64 a) (i64 b) then x else y) = R := tif_p ((cge h1 h2).mpr h) k
theorem tle_n (h1 : Rg a) (h2 : Rg b) (h : ¬ a ≤ b) (k : y = R) : (if lg_cmp (i64 a) (i64 b) ≤ 0 then x else y) = R := tif_n (mt (cle h1 h2).mp h) k
theorem teq_p (h : a = b) (k : x = R) : (if lg_cmp (i64 a) (i64 b) = 0 then x else y) = R := tif_p (by rw [h]; exact cmp_s _) k
theorem teq_n (h1 : Rg a) (h2 : Rg b) (h : ¬ a = b) (k : y = R) : (if lg_cmp (i64 a) (i64 b) = 0 then x else y) = R := tif_n (mt (ceq h1 h2).mp h) k
end TESTS
section KEPT
variable {h : HP} {z : Nat → Int} {B : Int} {A : (Nat → Nat → Int) × Nat × (Nat → Bool) × (Nat → Nat → Int) × (Nat → Int) × Nat} {y2 y4 y6 y8 y11 : Int64} {w m d : Nat} {a b c : Int}
theorem kept_195 (I : CI B h (z, A)) {K : Nat → Int32 → Int64 → Int64 → Int64 → Int64 → Int32 → HP → Option (Int32 × HP)} {K2 : Nat → Int32 → Int64 → Int64 → Int64 → Int64 → Int32 → Int64 → Int64 → Int64 → Int64 → Int32 → HP → Option (Int32 × HP)} (hw : (w : Int) < z 184) (hm : (m : Int) < z (31 * w)) {t : Int} {x1 : Int32} :
    f_Q_kept_195 K K2 180 x1 y2 y4 y6 y8 (iI w) y11 (i64 b) (i64 c) (iI m) (i64 a) (i64 t) h = K2 180 x1 y2 y4 y6 y8 (iI w) y11 (i64 (a + t)) (i64 (b + z (31 * w + 1 + m))) (i64 (c + (shareZ z).1 (30 * w + m))) (iI ((m + 1 : Nat) : Int)) h := by
  rw [f_Q_kept_195]
  refine stq (nm_0 I hw hm) ?_
  refine stq (nm_1 I hw hm) ?_
  dsimp only
  rw [i64_a, i64_a, i64_a, lI1, iI_add, show (m : Int) + 1 = ((m + 1 : Nat) : Int) by omega]
theorem kept_151 (I : CI B h (z, A)) {K : Nat → Int32 → Int64 → Int64 → Int64 → Int64 → Int32 → HP → Option (Int32 × HP)} {K2 : Nat → Int32 → Int64 → Int64 → Int64 → Int64 → Int32 → Int64 → Int64 → Int64 → Int64 → Int32 → HP → Option (Int32 × HP)} (hw : (w : Int) < z 184) (hm : (m : Int) < z (31 * w)) :
    f_Q_kept_151 K K2 180 y2 y4 y6 y8 (iI w) y11 (i64 a) (i64 b) (i64 c) (iI m) (i64 (atZ z w m)) h = K2 180 1 y2 y4 y6 y8 (iI w) y11 (i64 (a + (if atZ z w m = -1 then 1 else 0))) (i64 (b + z (31 * w + 1 + m))) (i64 (c + (shareZ z).1 (30 * w + m))) (iI ((m + 1 : Nat) : Int)) h := by
  have F := I.wf
  have hn := F.1
  have hL := F.2.2.2.1 w (by omega)
  have p := F.2.2.2.2.1 w m (by omega) (by omega)
  have g := rg_tkn F (w := w) (m := m) (by omega) (by omega)
  have ga := rg_at F w m
  rw [f_Q_kept_151]
  refine stq (nm_1 I hw hm) ?_
  refine stq (nm_0 I hw hm) ?_
  dsimp only
  refine tgt_n ⟨by omega, by omega⟩ ⟨by omega, by omega⟩ (by omega) ?_
  rw [f_Q_kept_178, l64_m]
  by_cases q : atZ z w m = -1
  · refine teq_p q ?_
    rw [if_pos q, l64_1]
    exact kept_195 I hw hm
  · refine teq_n ⟨by omega, by omega⟩ ⟨by omega, by omega⟩ q ?_
    rw [if_neg q, l64_0]
    exact kept_195 I hw hm
noncomputable def K2t (K : Nat → Int32 → Int64 → Int64 → Int64 → Int64 → Int32 → HP → Option (Int32 × HP)) (fu w : Nat) (y2 y4 y6 y8 : Int64) (z : Nat → Int) (a b c : Int) (m : Nat) (h : HP) : Option (Int32 × HP) := f_Q_kept_53 K fu 180 1 y2 y4 y6 y8 (iI w) (i64 (z (31 * w))) (i64 (a + (if atZ z w m = -1 then 1 else 0))) (i64 (b + z (31 * w + 1 + m))) (i64 (c + (shareZ z).1 (30 * w + m))) (iI ((m + 1 : Nat) : Int)) h
theorem row_rng (F : WF z) (hw : (w : Int) < z 184) : InR (rowZ z w).2 := by
  have hn := F.1
  have hL := F.2.2.2.1 w (by omega)
  have q : ∀ (n m : Nat) (b s r : Int), 0 ≤ r → r ≤ m → m + n ≤ 100 → -1 ≤ s → s ≤ 100 → -1 ≤ (lrF z w n m b s r).2 ∧ (lrF z w n m b s r).2 ≤ 100 := by
    intro n
    induction n with
    | zero => intro m b s r _ _ _ h1 h2; exact ⟨h1, h2⟩
    | succ n ih =>
      intro m b s r hr hm hl h1 h2
      rw [lrF]
      have e : ((m : Int) + 1) = ((m + 1 : Nat) : Int) := by omega
      rw [e]
      have h3 : 0 ≤ runZ z w m r ∧ runZ z w m r ≤ m + 1 := by
        unfold runZ
        split <;> omega
      refine ih (m + 1) _ _ _ h3.1 (by omega) (by omega) ?_ ?_
      · split <;> omega
      · split <;> omega
  have := q (z (31 * w)).toNat 0 0 (-1) 0 (Int.le_refl _) (by omega) (by omega) (by omega) (by omega)
  have : -1 ≤ (rowZ z w).2 ∧ (rowZ z w).2 ≤ 100 := this
  exact ⟨by omega, by omega⟩
theorem kept_53 (I : CI B h (z, A)) {K : Nat → Int32 → Int64 → Int64 → Int64 → Int64 → Int32 → HP → Option (Int32 × HP)} (hw : (w : Int) < z 184) : ∀ (n m fu : Nat) (a b c : Int), (m : Int) + n = z (31 * w) → n < fu →
    f_Q_kept_53 K fu 180 1 y2 y4 y6 y8 (iI w) (i64 (z (31 * w))) (i64 a) (i64 b) (i64 c) (iI m) h = f_Q_kept_232 K 180 1 y2 y4 y6 y8 (iI w) (i64 (z (31 * w))) (i64 (a + sm (fun k => if atZ z w k = -1 then 1 else 0) n m)) (i64 (b + sm (fun k => z (31 * w + 1 + k)) n m)) (i64 (c + sm (fun k => (shareZ z).1 (30 * w + k)) n m)) h := by
  have F := I.wf
  have hn := F.1
  have hd10 := F.2.1
  have hL := F.2.2.2.1 w (by omega)
  intro n
  induction n with
  | zero =>
    intro m fu a b c hm hf
    obtain ⟨fu, rfl⟩ : ∃ j, fu = j + 1 := ⟨fu - 1, by omega⟩
    rw [f_Q_kept_53, ix64 (x := (m : Int)) (by omega) (by omega)]
    refine tge_p ⟨by omega, by omega⟩ ⟨by omega, by omega⟩ (by omega) ?_
    show _ = f_Q_kept_232 K 180 1 y2 y4 y6 y8 (iI w) (i64 (z (31 * w))) (i64 (a + 0)) (i64 (b + 0)) (i64 (c + 0)) h
    rw [Int.add_zero, Int.add_zero, Int.add_zero]
  | succ n ih =>
    intro m fu a b c hm hf
    obtain ⟨fu, rfl⟩ : ∃ j, fu = j + 1 := ⟨fu - 1, by omega⟩
    have hm2 : (m : Int) < z (31 * w) := by omega
    have ga := rg_at F w m
    have fin : ∀ r, r = K2t K fu w y2 y4 y6 y8 z a b c m h → r = f_Q_kept_232 K 180 1 y2 y4 y6 y8 (iI w) (i64 (z (31 * w))) (i64 (a + sm (fun k => if atZ z w k = -1 then 1 else 0) (n + 1) m)) (i64 (b + sm (fun k => z (31 * w + 1 + k)) (n + 1) m)) (i64 (c + sm (fun k => (shareZ z).1 (30 * w + k)) (n + 1) m)) h := by
      rintro _ rfl
      unfold K2t
      rw [ih (m + 1) fu _ _ _ (by omega) (by omega)]
      show _ = f_Q_kept_232 K 180 1 y2 y4 y6 y8 (iI w) (i64 (z (31 * w))) (i64 (a + ((if atZ z w m = -1 then 1 else 0) + sm (fun k => if atZ z w k = -1 then 1 else 0) n (m + 1)))) (i64 (b + (z (31 * w + 1 + m) + sm (fun k => z (31 * w + 1 + k)) n (m + 1)))) (i64 (c + ((shareZ z).1 (30 * w + m) + sm (fun k => (shareZ z).1 (30 * w + k)) n (m + 1)))) h
      rw [Int.add_assoc, Int.add_assoc, Int.add_assoc]
    refine fin _ ?_
    rw [f_Q_kept_53, ix64 (x := (m : Int)) (by omega) (by omega)]
    refine tge_n ⟨by omega, by omega⟩ ⟨by omega, by omega⟩ (by omega) ?_
    refine tif_n (by decide) ?_
    refine stq (nm_2 I hw hm2) ?_
    dsimp only
    rw [l64_m]
    rcases atZ_is F (w : Int) (m : Int) with ⟨q1, q2⟩ | ⟨k, k1, k2, k3⟩
    · refine teq_p q1 ?_
      rw [f_Q_kept_98, l64_m]
      refine teq_p q1 ?_
      exact kept_151 I hw hm2
    · have hD := F.2.2.2.2.2.1 k (by omega)
      have hS := F.wall (d := k) (by omega) k1
      refine teq_n ⟨by omega, by omega⟩ ⟨by omega, by omega⟩ (by omega) ?_
      have e32 : (i64 (atZ z w m)).toInt32 = iI k := by rw [i64_32, k2]
      rw [e32]
      refine stq (nd_4 I k1) ?_
      dsimp only
      rw [f_Q_kept_98, l64_m]
      refine teq_n ⟨by omega, by omega⟩ ⟨by omega, by omega⟩ (by omega) ?_
      rw [e32]
      refine stq (nd_3 I k1) ?_
      dsimp only
      rw [ix64 (x := (w : Int)) (by omega) (by omega), ix64 (x := (m : Int)) (by omega) (by omega)]
      refine teq_p k3.1 ?_
      refine tlt_n ⟨by omega, by omega⟩ ⟨by omega, by omega⟩ (by have := k3.2.1; omega) ?_
      refine stq (nd_1 I k1) ?_
      dsimp only
      rw [i64_a]
      refine tge_n ⟨by omega, by omega⟩ ⟨by omega, by omega⟩ (by have := k3.2.2; omega) ?_
      exact kept_151 I hw hm2
theorem kept_232 (I : CI B h (z, A)) {K : Nat → Int32 → Int64 → Int64 → Int64 → Int64 → Int32 → HP → Option (Int32 × HP)} (hw : (w : Int) < z 184) : f_Q_kept_232 K 180 1 y2 y4 y6 y8 (iI w) (i64 (z (31 * w))) (i64 (freZ z w)) (i64 (plgZ z w)) (i64 (hadZ z w)) h = K 180 1 (y2 + i64 (z (31 * w))) (y4 + i64 (freZ z w)) (y6 + i64 (plgZ z w)) (y8 + i64 (hadZ z w)) (iI ((w + 1 : Nat) : Int)) h := by
  have F := I.wf
  have hn := F.1
  have hL := F.2.2.2.1 w (by omega)
  have gf := rg_fre F hw
  obtain ⟨⟨r1, r2⟩, r3⟩ := row_free z w
  rw [f_Q_kept_232]
  refine tif_n (by decide) ?_
  refine stq (nf_0 I hw) ?_
  refine teq_p rfl ?_
  refine stq (nf_1 I hw) ?_
  refine teq_p rfl ?_
  refine stq (nw_2 I hw) ?_
  refine teq_p rfl ?_
  refine stq (nw_3 I hw) ?_
  refine teq_p rfl ?_
  refine stq (nw_4 I hw) ?_
  dsimp only
  rw [f_Q_in, l64_0, if_neg (mt (clt (a := (rowZ z w).1) (b := 0) ⟨by omega, by omega⟩ ⟨by omega, by omega⟩).mp (by omega)), if_neg (mt (cgt (a := (rowZ z w).1) (b := freZ z w) ⟨by omega, by omega⟩ ⟨by omega, by omega⟩).mp (by omega)), Option.bind_some]
  refine tif_n (by decide) ?_
  refine stq (nw_5 I hw) ?_
  dsimp only
  have fin : ∀ s : Int32, (if lg_cmp (i64 (freZ z w)) (0 : Int64) = 0 then (1 : Int32) else 0) = s → f_Q_kept_323 K 180 y2 y4 y6 y8 (iI w) (i64 (z (31 * w))) (i64 (freZ z w)) (i64 (plgZ z w)) (i64 (hadZ z w)) s h = K 180 1 (y2 + i64 (z (31 * w))) (y4 + i64 (freZ z w)) (y6 + i64 (plgZ z w)) (y8 + i64 (hadZ z w)) (iI ((w + 1 : Nat) : Int)) h := by
    intro s hs
    have e : f_Q_kept_335 K 180 y2 y4 y6 y8 (iI w) (i64 (z (31 * w))) (i64 (freZ z w)) (i64 (plgZ z w)) (i64 (hadZ z w)) s s h = K 180 1 (y2 + i64 (z (31 * w))) (y4 + i64 (freZ z w)) (y6 + i64 (plgZ z w)) (y8 + i64 (hadZ z w)) (iI ((w + 1 : Nat) : Int)) h := by
      rw [f_Q_kept_335, if_pos rfl, f_Q_kept_343, lI1, iI_add, show (w : Int) + 1 = ((w + 1 : Nat) : Int) by omega]
    rw [f_Q_kept_323]
    by_cases q : lg_cmp (i64 (freZ z w)) (0 : Int64) = 0
    · rw [if_pos q] at hs
      subst hs
      rw [if_pos q]
      exact e
    · rw [if_neg q] at hs
      subst hs
      rw [if_neg q]
      exact e
  by_cases q : freZ z w = 0
  · rw [if_pos (by rw [r3.mpr q]; rfl)]
    exact fin 1 (if_pos (by rw [q]; rfl))
  · rw [if_neg (fun g => by
      have g := congrArg Int64.toInt (cmp_0.mp g)
      by_cases c : InR (rowZ z w).2
      · rw [li_t c] at g
        exact q (r3.mp g)
      · exact c (row_rng F hw))]
    exact fin 0 (if_neg (fun g => by
      rw [l64_0] at g
      exact q ((ceq (a := freZ z w) (b := 0) ⟨by omega, by omega⟩ ⟨by omega, by omega⟩).mp g)))
theorem kept_16 (I : CI B h (z, A)) : ∀ (n w fu : Nat) (a b c e : Int), (w : Int) + n = z 184 → n < fu →
    f_Q_kept_16 fu 180 1 (i64 a) (i64 b) (i64 c) (i64 e) (iI w) h = f_Q_kept_376 180 1 (i64 (a + sm (fun k => z (31 * k)) n w)) (i64 (b + sm (fun k => freZ z k) n w)) (i64 (c + sm (fun k => plgZ z k) n w)) (i64 (e + sm (fun k => hadZ z k) n w)) h := by
  have F := I.wf
  have hn := F.1
  intro n
  induction n with
  | zero =>
    intro w fu a b c e hm hf
    obtain ⟨fu, rfl⟩ : ∃ j, fu = j + 1 := ⟨fu - 1, by omega⟩
    rw [f_Q_kept_16]
    refine stq (na_0 I) ?_
    dsimp only
    rw [ix64 (x := (w : Int)) (by omega) (by omega)]
    refine tge_p ⟨by omega, by omega⟩ ⟨by omega, by omega⟩ (by omega) ?_
    show _ = f_Q_kept_376 180 1 (i64 (a + 0)) (i64 (b + 0)) (i64 (c + 0)) (i64 (e + 0)) h
    rw [Int.add_zero, Int.add_zero, Int.add_zero, Int.add_zero]
  | succ n ih =>
    intro w fu a b c e hm hf
    obtain ⟨fu, rfl⟩ : ∃ j, fu = j + 1 := ⟨fu - 1, by omega⟩
    have hw : (w : Int) < z 184 := by omega
    have hL := F.2.2.2.1 w (by omega)
    rw [f_Q_kept_16]
    refine stq (na_0 I) ?_
    dsimp only
    rw [ix64 (x := (w : Int)) (by omega) (by omega)]
    refine tge_n ⟨by omega, by omega⟩ ⟨by omega, by omega⟩ (by omega) ?_
    refine tif_n (by decide) ?_
    refine stq (nw_0 I hw) ?_
    dsimp only
    have e0 := kept_53 I (K := f_Q_kept_16 fu) (y2 := i64 a) (y4 := i64 b) (y6 := i64 c) (y8 := i64 e) hw (z (31 * w)).toNat 0 4096 0 0 0 (by omega) (by omega)
    rw [Int.zero_add, Int.zero_add, Int.zero_add] at e0
    have e1 : f_Q_kept_53 (f_Q_kept_16 fu) 4096 180 1 (i64 a) (i64 b) (i64 c) (i64 e) (iI w) (i64 (z (31 * w))) (0 : Int64) (0 : Int64) (0 : Int64) (0 : Int32) h = f_Q_kept_16 fu 180 1 (i64 a + i64 (z (31 * w))) (i64 b + i64 (freZ z w)) (i64 c + i64 (plgZ z w)) (i64 e + i64 (hadZ z w)) (iI ((w + 1 : Nat) : Int)) h := e0.trans (kept_232 I hw)
    rw [e1, i64_a, i64_a, i64_a, i64_a, ih (w + 1) fu _ _ _ _ (by omega) (by omega)]
    show _ = f_Q_kept_376 180 1 (i64 (a + (z (31 * w) + sm (fun k => z (31 * k)) n (w + 1)))) (i64 (b + (freZ z w + sm (fun k => freZ z k) n (w + 1)))) (i64 (c + (plgZ z w + sm (fun k => plgZ z k) n (w + 1)))) (i64 (e + (hadZ z w + sm (fun k => hadZ z k) n (w + 1)))) h
    rw [Int.add_assoc, Int.add_assoc, Int.add_assoc, Int.add_assoc]
end KEPT
