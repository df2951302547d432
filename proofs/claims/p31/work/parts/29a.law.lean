/-! the law: both objects hold the same, so it answers 1 -/
theorem lI40 : (40 : Int32) = iI 40 := by decide
theorem and_i (y : Int32) : ∃ v : Int, (0 ≤ v ∧ v < 2147483648) ∧ y &&& 2147483647 = iI v := by
  refine ⟨(y &&& 2147483647).toInt, ?_, iI_of _⟩
  have h : (y &&& 2147483647).toBitVec.toNat < 2147483648 := by
    rw [Int32.toBitVec_and, BitVec.toNat_and]
    exact Nat.lt_of_le_of_lt Nat.and_le_right (by decide)
  show 0 ≤ (y &&& 2147483647).toBitVec.toInt ∧ (y &&& 2147483647).toBitVec.toInt < _
  rw [BitVec.toInt_eq_toNat_of_lt (by omega)]
  omega
theorem dr_i {L : Nat} (xs : Nat → Int32) (hL : L ≤ 260) {k : Int} (hk : 0 ≤ k ∧ k ≤ 1000) : ∃ v : Int, (0 ≤ v ∧ v < 2147483648) ∧ drO L xs (iI k) = some (iI v) := by
  have e : Int32.ofNat L = iI L := iI_nI L
  unfold drO
  by_cases c : Int32.ofNat L ≤ iI k
  · rw [if_pos c]
    obtain ⟨v, hv, ev⟩ := and_i ((15594251 : Int32) * iI k + 10853)
    exact ⟨v, hv, by rw [ev]⟩
  · rw [if_neg c]
    rw [e] at c
    have c2 : ¬ (L : Int) ≤ k := fun g => c ((iI_le (by omega) (by omega) (by omega) (by omega)).mpr g)
    rw [if_pos (iI_ib hk.1 (by omega) (by omega))]
    obtain ⟨v, hv, ev⟩ := and_i (xs (iI k).toNatClampNeg)
    exact ⟨v, hv, by rw [ev]⟩
/-- both hold the same -/
def Pr (B N : Int) (q : HP2) : Prop := ∃ A : AS, CI B q.1 A ∧ CI B q.2 A ∧ XA N A
theorem Pr.mono {B B' N N' : Int} {q : HP2} (p : Pr B N q) (h : B ≤ B') (hN : N ≤ N') : Pr B' N' q := by
  obtain ⟨A, I1, I2, X⟩ := p
  exact ⟨A, I1.mono h, I2.mono h, X.mono hN⟩
theorem XA.sav {N : Int} {A : AS} (X : XA N A) : XA N (savA A) := by
  refine ⟨by show 0 ≤ 14; omega, X.2.1, fun j hj => absurd hj (Nat.not_lt_zero j), fun s hs q => ?_⟩
  have q : (if s = 1 then true else A.2.2.2.1 s) = true := q
  show DX N (if s = 1 then A.1 else A.2.2.2.2.1 s)
  by_cases e : s = 1
  · rw [if_pos e]; exact X.2.1
  · rw [if_neg e] at q ⊢
    exact X.2.2.2 s hs q
theorem li_nn {x : Int} (h1 : 0 ≤ x) (h2 : x ≤ 1000000) : ¬ lg_cmp (li x) (0 : Int64) < 0 := by
  rw [li_e (inn (by omega) h2)]
  exact i64_nn h1 h2
theorem stl {α : Type} {o : Option (Int64 × HP)} {v : Int64} {h1 : HP} {f g : Int64 × HP → Option α} {R : Option α} (e : o = some (v, h1)) (q : ¬ lg_cmp v (0 : Int64) < 0) (k : f (v, h1) = R) : (o.bind fun w => if lg_cmp w.1 (0 : Int64) < 0 then g w else f w) = R := by
  rw [e, Option.bind_some]
  show (if lg_cmp v (0 : Int64) < 0 then g (v, h1) else f (v, h1)) = R
  rw [if_neg q]
  exact k
theorem std2 {α : Type} {o : Option (Int32 × HP2)} {h1 : HP2} {f g : Int32 × HP2 → Option α} {R : Option α} (e : o = some (1, h1)) (k : f (1, h1) = R) : (o.bind fun w => if w.1 = 0 then g w else f w) = R := by
  rw [e, Option.bind_some]
  show (if (1 : Int32) = 0 then g (1, h1) else f (1, h1)) = R
  rw [if_neg (by decide)]
  exact k
section LAWP
variable {B B' N N' : Int} {L k : Nat} {xs : Nat → Int32} {K : Int32 → Int32 → HP2 → Option Unit} {q : HP2}
theorem p_237 (P : Pr B N q) (hB : B < 2000000000) (hK : ∀ q', Pr B N q' → K 1 (iI k + 1) q' = some ()) (x6 : Int32) : f_Q_law_237 L xs K 1 (iI k) x6 q = some () := by
  obtain ⟨A, I1, I2, X⟩ := P
  unfold f_Q_law_237
  rw [if_neg (by decide)]
  by_cases c : 0 < (iI k - iI k / (10 : Int32) * (10 : Int32))
  · rw [if_pos c]
    exact hK q ⟨A, I1, I2, X⟩
  · rw [if_neg c]
    obtain ⟨h1, h2, g, J1, J2⟩ := w_alike I1 I2 hB x6
    refine std2 g ?_
    exact hK _ ⟨A, J1, J2, X⟩
theorem p_188 (P : Pr B N q) (hB : B + 42000 ≤ 50000000) (hN : N ≤ 1000000) (hk : k ≤ 100) (hK : ∀ q', Pr (B + 42000) N q' → K 1 (iI k + 1) q' = some ()) {x6 : Int} (hx : 0 ≤ x6 ∧ x6 < 2147483648) : f_Q_law_188 L xs K 1 (iI k) (iI x6) q = some () := by
  unfold f_Q_law_188
  by_cases c : (iI k - iI k / (13 : Int32) * (13 : Int32)) = (12 : Int32)
  · rw [if_pos c, if_neg (by decide)]
    obtain ⟨A, I1, I2, X⟩ := P
    obtain ⟨h2, g2, J2⟩ := w_follows I2 X hN hB hx
    obtain ⟨z, ys, cc, kb, ks, t, n⟩ := A
    have hd : 0 ≤ z 186 ∧ z 186 ≤ N := X.2.1.2
    obtain ⟨h1, g1, J1⟩ := w_save I1 (s := 1) (by decide) lI1
    obtain ⟨h3, g3, J3⟩ := w_restore J1 (s := 1) (by decide) rfl lI1
    have g3 : f_Q_restore h1 180 1 = some (li (z 186), h3) := g3
    have J3 : CI B h3 (savA (z, ys, cc, kb, ks, t, n)) := J3
    refine std g2 ?_
    refine stl g1 (li_nn hd.1 (by omega)) ?_
    refine stl g3 (li_nn hd.1 (by omega)) ?_
    show f_Q_law_237 L xs K 1 (iI k) (iI x6) (h3, h2) = some ()
    exact p_237 (q := (h3, h2)) ⟨_, J3.mono (by omega), J2, X.sav⟩ (by omega) hK _
  · rw [if_neg c]
    exact p_237 (P.mono (by omega) (Int.le_refl _)) (by omega) hK _
theorem p_154 (P : Pr B N q) (hB : B + 42000 ≤ 50000000) (hN : N ≤ 1000000) (hk : k ≤ 100) (hK : ∀ q', Pr (B + 42000) N q' → K 1 (iI k + 1) q' = some ()) {x6 : Int} (hx : 0 ≤ x6 ∧ x6 < 2147483648) : f_Q_law_154 L xs K (iI k) (iI x6) 1 q = some () := by
  unfold f_Q_law_154
  by_cases c : (iI k - iI k / (8 : Int32) * (8 : Int32)) = (3 : Int32)
  · rw [if_pos c, if_neg (by decide)]
    obtain ⟨A, I1, I2, X⟩ := P
    obtain ⟨h2, g2, q2⟩ := w_errors (z := A.1) (A := A.2) I2 X.2.1.1
    have J2 := I2.qf q2
    have g3 := w_kept (z := A.1) (A := A.2) J2 (by omega)
    refine std g2 ?_
    refine std g3 ?_
    show f_Q_law_188 L xs K 1 (iI k) (iI x6) (q.1, h2) = some ()
    exact p_188 (q := (q.1, h2)) ⟨A, I1, J2, X⟩ hB hN hk hK hx
  · rw [if_neg c]
    exact p_188 P hB hN hk hK hx
theorem p_271 (P : Pr B N q) (hB : B < 2000000000) : f_Q_law_271 L xs 1 q = some () := by
  obtain ⟨A, I1, I2, X⟩ := P
  unfold f_Q_law_271
  rw [if_neg (by decide)]
  obtain ⟨h1, h2, g, J1, J2⟩ := w_alike I1 I2 hB 10853
  exact std2 g rfl
theorem p_52 (hL : L ≤ 260) : ∀ (j k : Nat) (q : HP2), k + j = 40 → Pr (5040000 + 84000 * k) (7200 + 60 * k) q → f_Q_law_52 L xs (j + 1) 1 (iI k) q = some () := by
  intro j
  induction j with
  | zero =>
    intro k q hk P
    rw [f_Q_law_52, if_pos (by rw [lI40]; exact (iI_le (by omega) (by omega) (by omega) (by omega)).mpr (by omega))]
    exact p_271 P (by omega)
  | succ j ih =>
    intro k q hk P
    have en : iI k + 1 = iI ((k + 1 : Nat) : Int) := by rw [show ((k + 1 : Nat) : Int) = (k : Int) + 1 by omega, lI1, iI_add]
    have hK : ∀ q', Pr (5040000 + 84000 * k + 84000) (7200 + 60 * k + 60) q' → f_Q_law_52 L xs (j + 1) 1 (iI k + 1) q' = some () := fun q' P' => by
      rw [en]
      exact ih (k + 1) q' (by omega) (P'.mono (by omega) (by omega))
    obtain ⟨v3, b3, d3⟩ := dr_i (L := L) xs hL (k := 2 * (k : Int)) (by omega)
    obtain ⟨v5, b5, d5⟩ := dr_i (L := L) xs hL (k := 2 * (k : Int) + 1) (by omega)
    have e3 : drO L xs ((2 : Int32) * iI k) = some (iI v3) := by rw [lI2, iI_mul]; exact d3
    have e5 : drO L xs ((2 : Int32) * iI k + (1 : Int32)) = some (iI v5) := by rw [lI2, iI_mul, lI1, iI_add]; exact d5
    rw [f_Q_law_52, if_neg (by rw [lI40]; exact mt (iI_le (by omega) (by omega) (by omega) (by omega)).mp (by omega)), if_neg (by decide), e3, Option.bind_some, e5, Option.bind_some]
    obtain ⟨A, I1, I2, X⟩ := P
    by_cases k0 : k = 0
    · subst k0
      rw [if_pos (by decide)]
      obtain ⟨h1, g1, J1⟩ := w_told I1 b3
      obtain ⟨h2, g2, J2⟩ := w_told I2 b3
      obtain ⟨v, A', X', f⟩ := b_load (B := 5040000) (N := 7200) (A := (A.1, A.2.1, A.2.2.1, A.2.2.2.1, A.2.2.2.2.1, tOf A.2.2.2.2.2.1 (tolL v3), (tolL v3).length)) (Int.le_refl _) (Int.le_refl _) X
      obtain ⟨h3, g3, J3⟩ := f h1 J1
      obtain ⟨h4, g4, J4⟩ := f h2 J2
      refine std g1 ?_
      refine std g2 ?_
      refine stpp g3 g4 ?_
      show f_Q_law_52 L xs (j + 1) 1 (iI (0 : Nat) + 1) (h3, h4) = some ()
      exact hK _ (Pr.mono (q := (h3, h4)) ⟨A', J3, J4, X'⟩ (by omega) (by omega))
    · rw [if_neg (by rw [lI0]; exact mt (iI_eq (by omega) (by omega) (by omega) (by omega)).mp (by omega))]
      obtain ⟨v, A', X', f⟩ := b_act (B := 5040000 + 84000 * k) (N := 7200 + 60 * k) (A := A) (CI.wf (z := A.1) (A := A.2) I1) X (iI v3) (iI v5)
      obtain ⟨h3, g3, J3⟩ := f q.1 I1
      obtain ⟨h4, g4, J4⟩ := f q.2 I2
      refine stpp g3 g4 ?_
      show f_Q_law_154 L xs (f_Q_law_52 L xs (j + 1)) (iI k) (iI v5) 1 (h3, h4) = some ()
      exact p_154 (q := (h3, h4)) ⟨A', J3, J4, X'⟩ (by omega) (by omega) (by omega) (fun q' P' => hK q' (P'.mono (by omega) (by omega))) b5
end LAWP
/-- the law answers 1 -/
theorem pure_law (L : Nat) (xs : Nat → Int32) (hL : L ≤ 260) : f_Q_law_16 L xs (hIni, hIni) = some () := by
  obtain ⟨v, -, d⟩ := dr_i xs hL (k := 0) (by omega)
  have X : XA 7200 iniA := XA.ini.mono (by omega)
  obtain ⟨h1, h2, g1, I1, I2⟩ := w_alike ci_ini ci_ini (by omega) (iI v)
  obtain ⟨h3, g3, q3⟩ := w_errors (z := iniA.1) (A := iniA.2) I1 X.2.1.1
  have I3 := I1.qf q3
  have g4 := w_kept (z := iniA.1) (A := iniA.2) I3 (by omega)
  unfold f_Q_law_16
  rw [lI0, d, Option.bind_some]
  refine std2 g1 ?_
  refine std g3 ?_
  refine std g4 ?_
  show f_Q_law_52 L xs 41 1 (0 : Int32) (h3, h2) = some ()
  rw [lI0]
  exact p_52 hL 40 0 (h3, h2) (by omega) (Pr.mono (q := (h3, h2)) ⟨iniA, I3, I2, X⟩ (by omega) (by omega))
