/-! told: the text that is appended is one of commands -/
theorem lI49 : (49 : Int32) = iI 49 := by decide
def tOf (t : Nat → Int) (L : List Int) : Nat → Int := fun i => if i < L.length then L.getD i 0 else t i
theorem tOf_nil (t : Nat → Int) : tOf t [] = t := funext fun i => if_neg (Nat.not_lt_zero i)
theorem tOf_s (t : Nat → Int) (L : List Int) (x : Int) : uI (tOf t L) L.length x = tOf t (L ++ [x]) := by
  have hl : (L ++ [x]).length = L.length + 1 := by rw [List.length_append]; rfl
  funext i
  by_cases c : i = L.length
  · subst c
    rw [uI_s]
    unfold tOf
    rw [if_pos (by omega), List.getD_eq_getElem?_getD, List.getElem?_append_right (Nat.le_refl _), Nat.sub_self]
    rfl
  · rw [uI_n _ _ c]
    unfold tOf
    by_cases c2 : i < L.length
    · rw [if_pos c2, if_pos (by omega), List.getD_eq_getElem?_getD, List.getD_eq_getElem?_getD, List.getElem?_append_left c2]
    · rw [if_neg c2, if_neg (by omega)]
theorem TS.of (t : Nat → Int) (L : List Int) : TS (tOf t L) L.length 0 L := ⟨by omega, fun i hi => by rw [Nat.zero_add]; exact if_pos hi⟩
theorem li_p {n : Nat} (h : n ≤ 120) : ¬ lg_cmp (li ((n : Int) + 1)) (0 : Int64) ≤ 0 := fun g => by
  have := cmp_le.mp g
  rw [li_t (inn (by omega) (by omega)), show (0 : Int64).toInt = 0 by decide] at this
  omega
theorem pmod {C M : Int32} {c m y : Int} (eC : C = iI c) (eM : M = iI m) (hy : 0 ≤ y ∧ y < 2147483648) (h3 : 0 < m) (h4 : m < 2147483648) : C + (iI y - iI y / M * M) = iI (c + y % m) := by rw [modI eM hy.1 hy.2 h3 h4, eC, iI_add]
theorem pdm {C D M : Int32} {c d m y : Int} (eC : C = iI c) (eD : D = iI d) (eM : M = iI m) (hy : 0 ≤ y ∧ y < 2147483648) (h1 : 0 < d) (h2 : d < 2147483648) (h3 : 0 < m) (h4 : m < 2147483648) : C + (iI y / D - iI y / D / M * M) = iI (c + y / d % m) := by
  have a1 : 0 ≤ y / d := Int.ediv_nonneg hy.1 (by omega)
  have a2 : y / d ≤ y := Int.ediv_le_self _ hy.1
  rw [divI eD hy.1 hy.2 h1 h2, modI eM a1 (by omega) h3 h4, eC, iI_add]
theorem shr_k {x : Int} (hx : 0 ≤ x ∧ x < 2147483648) {K : Int32} {j : Nat} (hK : K.toBitVec.smod 32#32 = BitVec.ofNat 32 j) (hj : j < 32) : iI x >>> K = iI (x / 2 ^ j) := by
  apply Int32.toInt_inj.mp
  have hp : (0 : Int) < 2 ^ j := Int.pow_pos (by decide)
  have h1 : 0 ≤ x / 2 ^ j := Int.ediv_nonneg hx.1 (by omega)
  have h2 : x / 2 ^ j ≤ x := Int.ediv_le_self _ hx.1
  rw [iI_toInt (by omega) (by omega)]
  show ((iI x) >>> K).toBitVec.toInt = _
  rw [Int32.toBitVec_shiftRight]
  show (((iI x).toBitVec).sshiftRight (K.toBitVec.smod 32#32).toNat).toInt = _
  rw [hK, BitVec.toInt_sshiftRight, Int.shiftRight_eq_div_pow]
  have e : (BitVec.ofNat 32 j).toNat = j := by
    rw [BitVec.toNat_ofNat]; omega
  rw [e]
  show (iI x).toInt / _ = _
  rw [iI_toInt (by omega) (by omega)]
  norm_cast
theorem shr_i {x : Int} (hx : 0 ≤ x ∧ x < 2147483648) {k : Nat} (hk : k < 4) : iI x >>> (iI k &&& 31) = iI (x / 2 ^ k) := by
  rcases (by omega : k = 0 ∨ k = 1 ∨ k = 2 ∨ k = 3) with e | e | e | e <;> subst e <;> exact shr_k hx (by decide) (by decide)
def hdL (x : Int) : List Int := [65, 119, 49, 48 + x % 10, 119, 50, 48 + x / 3 % 10, 111, 48, 48, 48 + x % 10, 51, 111, 49, 48, 48 + x / 7 % 10, 50]
def blk (y : Int) (k : Nat) : List Int := [100, 48 + y % 6, 49 + y % 4, 48 + y / 3 % 4, 112, 48 + (k : Int), 48 + y % 2, 48 + y / 5 % 2, 48 + y % 10]
def bls (x : Int) : Nat → Nat → List Int
  | 0, _ => []
  | j + 1, k => blk (x / 2 ^ k) k ++ bls x j (k + 1)
def tlL (x : Int) : List Int := [115, 48, 48 + x % 3, 110, 48, 49 + x % 9, 101, 51, 48, 48 + x % 10, 108, 48 + x % 5]
def tolL (x : Int) : List Int := hdL x ++ (bls x (1 + x % 4).toNat 0 ++ tlL x)
theorem bls_len (x : Int) : ∀ j k : Nat, (bls x j k).length = 9 * j := by
  intro j
  induction j with
  | zero => intro k; rfl
  | succ j ih =>
    intro k
    rw [bls, List.length_append, ih]
    show 9 + 9 * j = _
    omega
section TOLD
variable {x : Int} {h : HP} {z : Nat → Int} {ys : Nat → Nat → Int} {c : Nat} {kb : Nat → Bool} {ks : Nat → Nat → Int} {t : Nat → Int} {n : Nat} {B : Int} {L : List Int}
theorem gl_tl (hx : 0 ≤ x) (m : Nat) : GL (m + 4) (tlL x) := by
  refine gl_s (m := m + 3) (a := 48) (b := 48 + x % 3) (L := [110, 48, 49 + x % 9, 101, 51, 48, 48 + x % 10, 108, 48 + x % 5]) (by omega) (by omega) ?_
  refine gl_n (m := m + 2) (b := 49 + x % 9) (L := [101, 51, 48, 48 + x % 10, 108, 48 + x % 5]) (by omega) ?_
  refine gl_e (m := m + 1) (a := 51) (b := 48 + x % 10) (L := [108, 48 + x % 5]) (by omega) (by omega) ?_
  exact gl_l (m := m) (a := 48 + x % 5) (L := []) (by omega) (GL.nil m)
theorem gl_bl (hx : 0 ≤ x) : ∀ (j k m : Nat) (T : List Int), k + j ≤ 4 → GL m T → GL (m + 2 * j) (bls x j k ++ T) := by
  intro j
  induction j with
  | zero => intro k m T _ g; exact g
  | succ j ih =>
    intro k m T hk g
    have g1 := ih (k + 1) m T (by omega) g
    obtain ⟨y, hy⟩ : ∃ y, y = x / 2 ^ k := ⟨_, rfl⟩
    have y0 : 0 ≤ y := by
      rw [hy]
      exact Int.ediv_nonneg hx (Int.le_of_lt (Int.pow_pos (by decide)))
    rw [bls, ← hy, show m + 2 * (j + 1) = m + 2 * j + 1 + 1 by omega, List.append_assoc]
    refine gl_d (m := m + 2 * j + 1) (a := 48 + y % 6) (b := 49 + y % 4) (c := 48 + y / 3 % 4) (L := 112 :: (48 + (k : Int)) :: (48 + y % 2) :: (48 + y / 5 % 2) :: (48 + y % 10) :: (bls x j (k + 1) ++ T)) (by omega) (by omega) (by omega) ?_
    exact gl_p (m := m + 2 * j) (a := 48 + (k : Int)) (b := 48 + y % 2) (c := 48 + y / 5 % 2) (d := 48 + y % 10) (L := bls x j (k + 1) ++ T) (by omega) (by omega) (by omega) (by omega) g1
theorem tol_err (hx : 0 ≤ x) (t : Nat → Int) : errZ (tOf t (tolL x)) (tolL x).length = -1 := by
  obtain ⟨j, hj⟩ : ∃ j, j = (1 + x % 4).toNat := ⟨_, rfl⟩
  have g1 : GL 116 (bls x j 0 ++ tlL x) := by
    have := gl_bl hx j 0 (116 - 2 * j) (tlL x) (by omega) (by rw [show 116 - 2 * j = 112 - 2 * j + 4 by omega]; exact gl_tl hx _)
    rw [show 116 - 2 * j + 2 * j = 116 by omega] at this
    exact this
  have e : tolL x = 65 :: (119 :: 49 :: (48 + x % 10) :: 119 :: 50 :: (48 + x / 3 % 10) :: 111 :: 48 :: 48 :: (48 + x % 10) :: 51 :: 111 :: 49 :: 48 :: (48 + x / 7 % 10) :: 50 :: (bls x j 0 ++ tlL x)) := by
    unfold tolL
    rw [← hj]
    rfl
  have T := TS.of t (tolL x)
  rw [e] at T ⊢
  refine err_ok T ?_
  refine gl_w (m := 119) (Or.inl ⟨rfl, by omega, by omega, by omega⟩) ?_
  refine gl_w (m := 118) (Or.inr ⟨rfl, by omega, by omega⟩) ?_
  refine gl_o (m := 117) (by omega) ⟨rfl, by omega, by omega⟩ (by omega) ?_
  exact gl_o (m := 116) (by omega) ⟨rfl, by omega, by omega⟩ (by omega) g1
theorem sta {α : Type} {o : Option (Int64 × HP)} {v : Int64} {h1 : HP} {f g : Int64 × HP → Option α} {R : Option α} (e : o = some (v, h1)) (q : ¬ lg_cmp v (0 : Int64) ≤ 0) (k : f (v, h1) = R) : (o.bind fun w => if lg_cmp w.1 (0 : Int64) ≤ 0 then g w else f w) = R := by
  rw [e, Option.bind_some]
  show (if lg_cmp v (0 : Int64) ≤ 0 then g (v, h1) else f (v, h1)) = R
  rw [if_neg q]
  exact k
theorem std {α : Type} {o : Option (Int32 × HP)} {h1 : HP} {f g : Int32 × HP → Option α} {R : Option α} (e : o = some (1, h1)) (k : f (1, h1) = R) : (o.bind fun w => if w.1 = 0 then g w else f w) = R := by
  rw [e, Option.bind_some]
  show (if (1 : Int32) = 0 then g (1, h1) else f (1, h1)) = R
  rw [if_neg (by decide)]
  exact k
theorem q_app (I : CI B h (z, ys, c, kb, ks, tOf t L, L.length)) {x : Int} (cx : 0 ≤ x ∧ x ≤ 255) (cn : L.length < 120) {X0 : Int32} (e : X0 = iI x) : ∃ h2, g_Q_append h 180 X0 = some (li ((L.length : Int) + 1), h2) ∧ CI B h2 (z, ys, c, kb, ks, tOf t (L ++ [x]), (L ++ [x]).length) := by
  obtain ⟨h2, g2, I2⟩ := n_append I cx (by omega) e
  rw [tOf_s] at I2
  exact ⟨h2, g2, by rw [List.length_append]; exact I2⟩
theorem q_says (I : CI B h (z, ys, c, kb, ks, tOf t L, L.length)) {a b d e : Int} (c1 : 0 ≤ a ∧ a ≤ 255) (c2 : 0 ≤ b ∧ b ≤ 255) (c3 : 0 ≤ d ∧ d ≤ 255) (c4 : 0 ≤ e ∧ e ≤ 255) (cn : L.length + 4 ≤ 120) {X1 X2 X3 X4 : Int32} (e1 : X1 = iI a) (e2 : X2 = iI b) (e3 : X3 = iI d) (e4 : X4 = iI e) : ∃ h2, f_Q_says h 180 X1 X2 X3 X4 = some (1, h2) ∧ CI B h2 (z, ys, c, kb, ks, tOf t (L ++ [a, b, d, e]), (L ++ [a, b, d, e]).length) := by
  have l1 : (L ++ [a]).length = L.length + 1 := by rw [List.length_append]; rfl
  have l2 : (L ++ [a] ++ [b]).length = L.length + 2 := by rw [List.length_append, l1]; rfl
  have l3 : (L ++ [a] ++ [b] ++ [d]).length = L.length + 3 := by rw [List.length_append, l2]; rfl
  obtain ⟨h1, g1, I1⟩ := q_app I c1 (by omega) e1
  obtain ⟨h2, g2, I2⟩ := q_app I1 c2 (by omega) e2
  obtain ⟨h3, g3, I3⟩ := q_app I2 c3 (by omega) e3
  obtain ⟨h4, g4, I4⟩ := q_app I3 c4 (by omega) e4
  have ea : L ++ [a] ++ [b] ++ [d] ++ [e] = L ++ [a, b, d, e] := by
    rw [List.append_assoc, List.append_assoc, List.append_assoc]
    rfl
  rw [← ea]
  refine ⟨h4, ?_, I4⟩
  unfold f_Q_says
  refine sta g1 (li_p (by omega)) ?_
  refine sta g2 (li_p (by omega)) ?_
  refine sta g3 (li_p (by omega)) ?_
  refine sta g4 (li_p (by omega)) ?_
  rfl
theorem q_220 (hx : 0 ≤ x ∧ x < 2147483648) (I : CI B h (z, ys, c, kb, ks, tOf t L, L.length)) (hL : L.length + 12 ≤ 120) (g : errZ (tOf t (L ++ tlL x)) (L ++ tlL x).length = -1) : ∃ h2, f_Q_told_220 180 (iI x) 1 h = some (1, h2) ∧ CI B h2 (z, ys, c, kb, ks, tOf t (L ++ tlL x), (L ++ tlL x).length) := by
  obtain ⟨h1, g1, I1⟩ := q_says I (a := 115) (b := 48) (d := 48 + x % 3) (e := 110) (by omega) (by omega) (by omega) (by omega) (by omega) lI115 lI48 (pmod lI48 lI3 hx (by decide) (by decide)) lI110
  have l1 : (L ++ [115, 48, 48 + x % 3, 110]).length = L.length + 4 := by rw [List.length_append]; rfl
  obtain ⟨h2, g2, I2⟩ := q_says I1 (a := 48) (b := 49 + x % 9) (d := 101) (e := 51) (by omega) (by omega) (by omega) (by omega) (by omega) lI48 (pmod lI49 lI9 hx (by decide) (by decide)) lI101 lI51
  have l2 : (L ++ [115, 48, 48 + x % 3, 110] ++ [48, 49 + x % 9, 101, 51]).length = L.length + 8 := by rw [List.length_append, l1]; rfl
  obtain ⟨h3, g3, I3⟩ := q_says I2 (a := 48) (b := 48 + x % 10) (d := 108) (e := 48 + x % 5) (by omega) (by omega) (by omega) (by omega) (by omega) lI48 (pmod lI48 lI10 hx (by decide) (by decide)) lI108 (pmod lI48 lI5 hx (by decide) (by decide))
  have ea : L ++ [115, 48, 48 + x % 3, 110] ++ [48, 49 + x % 9, 101, 51] ++ [48, 48 + x % 10, 108, 48 + x % 5] = L ++ tlL x := by
    rw [List.append_assoc, List.append_assoc]
    rfl
  rw [ea] at I3
  obtain ⟨h4, g4, q4⟩ := k_errPos I3.2.2.2
  have g4 : f_F_errorPosition h3 180 = some (iI (errZ (tOf t (L ++ tlL x)) (L ++ tlL x).length), h4) := g4
  rw [g] at g4
  refine ⟨h4, ?_, I3.qf q4⟩
  unfold f_Q_told_220
  rw [if_neg (by decide)]
  refine std g1 ?_
  refine std g2 ?_
  refine std g3 ?_
  show ((f_F_errorPosition h3 180).bind _) = _
  rw [g4, Option.bind_some]
  exact if_pos (show iI (-1) = (-1 : Int32) by decide)
theorem q_111 (hx : 0 ≤ x ∧ x < 2147483648) : ∀ (j k f : Nat) (L : List Int) (h : HP), (k : Int) + j = 1 + x % 4 → j < f → L.length + 9 * j ≤ 120 → CI B h (z, ys, c, kb, ks, tOf t L, L.length) → ∃ h2, f_Q_told_111 f 180 (iI x) 1 (iI k) h = f_Q_told_220 180 (iI x) 1 h2 ∧ CI B h2 (z, ys, c, kb, ks, tOf t (L ++ bls x j k), (L ++ bls x j k).length) := by
  have e4 : (1 : Int32) + (iI x - iI x / (4 : Int32) * (4 : Int32)) = iI (1 + x % 4) := pmod lI1 lI4 hx (by decide) (by decide)
  intro j
  induction j with
  | zero =>
    intro k f L h hk hf hL I
    obtain ⟨f, rfl⟩ : ∃ f', f = f' + 1 := ⟨f - 1, by omega⟩
    refine ⟨h, ?_, by rw [bls, List.append_nil]; exact I⟩
    rw [f_Q_told_111, e4, if_pos ((iI_le (by omega) (by omega) (by omega) (by omega)).mpr (by omega))]
  | succ j ih =>
    intro k f L h hk hf hL I
    obtain ⟨f, rfl⟩ : ∃ f', f = f' + 1 := ⟨f - 1, by omega⟩
    obtain ⟨y, hy⟩ : ∃ y, y = x / 2 ^ k := ⟨_, rfl⟩
    have y0 : 0 ≤ y ∧ y < 2147483648 := by
      rw [hy]
      have h1 : 0 ≤ x / 2 ^ k := Int.ediv_nonneg hx.1 (Int.le_of_lt (Int.pow_pos (by decide)))
      have h2 : x / 2 ^ k ≤ x := Int.ediv_le_self _ hx.1
      omega
    have ey : iI x >>> (iI k &&& 31) = iI y := by rw [hy]; exact shr_i hx (by omega)
    obtain ⟨h1, g1, I1⟩ := q_says I (a := 100) (b := 48 + y % 6) (d := 49 + y % 4) (e := 48 + y / 3 % 4) (by omega) (by omega) (by omega) (by omega) (by omega) lI100 (pmod lI48 lI6 y0 (by decide) (by decide)) (pmod lI49 lI4 y0 (by decide) (by decide)) (pdm lI48 lI3 lI4 y0 (by decide) (by decide) (by decide) (by decide))
    have l1 : (L ++ [100, 48 + y % 6, 49 + y % 4, 48 + y / 3 % 4]).length = L.length + 4 := by rw [List.length_append]; rfl
    obtain ⟨h2, g2, I2⟩ := q_says I1 (a := 112) (b := 48 + (k : Int)) (d := 48 + y % 2) (e := 48 + y / 5 % 2) (by omega) (by omega) (by omega) (by omega) (by omega) lI112 (show (48 : Int32) + iI k = iI (48 + (k : Int)) by rw [lI48, iI_add]) (pmod lI48 lI2 y0 (by decide) (by decide)) (pdm lI48 lI5 lI2 y0 (by decide) (by decide) (by decide) (by decide))
    have l2 : (L ++ [100, 48 + y % 6, 49 + y % 4, 48 + y / 3 % 4] ++ [112, 48 + (k : Int), 48 + y % 2, 48 + y / 5 % 2]).length = L.length + 8 := by rw [List.length_append, l1]; rfl
    obtain ⟨h3, g3, I3⟩ := q_app I2 (x := 48 + y % 10) (by omega) (by omega) (pmod lI48 lI10 y0 (by decide) (by decide))
    have ea : L ++ [100, 48 + y % 6, 49 + y % 4, 48 + y / 3 % 4] ++ [112, 48 + (k : Int), 48 + y % 2, 48 + y / 5 % 2] ++ [48 + y % 10] = L ++ blk y k := by
      rw [List.append_assoc, List.append_assoc]
      rfl
    rw [ea] at I3
    have l3 : (L ++ blk y k).length = L.length + 9 := by rw [List.length_append]; rfl
    have en : ((k + 1 : Nat) : Int) = (k : Int) + 1 := by omega
    obtain ⟨h4, g4, I4⟩ := ih (k + 1) f (L ++ blk y k) h3 (by omega) (by omega) (by omega) I3
    rw [List.append_assoc] at I4
    refine ⟨h4, ?_, by rw [bls, ← hy]; exact I4⟩
    rw [f_Q_told_111, e4, if_neg (mt (iI_le (by omega) (by omega) (by omega) (by omega)).mp (by omega)), if_neg (by decide), ey]
    refine std g1 ?_
    refine std g2 ?_
    refine sta g3 (li_p (by omega)) ?_
    show f_Q_told_111 f 180 (iI x) 1 (iI k + (1 : Int32)) h3 = _
    have e1 : iI k + (1 : Int32) = iI ((k + 1 : Nat) : Int) := by rw [en, lI1, iI_add]
    rw [e1]
    exact g4
theorem w_told {A : AS} (I : CI B h A) (hx : 0 ≤ x ∧ x < 2147483648) : ∃ h2, f_Q_told h 180 (iI x) = some (1, h2) ∧ CI B h2 (A.1, A.2.1, A.2.2.1, A.2.2.2.1, A.2.2.2.2.1, tOf A.2.2.2.2.2.1 (tolL x), (tolL x).length) := by
  obtain ⟨z, ys, c, kb, ks, t, n⟩ := A
  have hn : n ≤ 120 := I.2.2.2.1
  obtain ⟨h0, g0, I0⟩ := k_clear I
  rw [← tOf_nil t] at I0
  obtain ⟨h1, g1, I1⟩ := q_app (L := []) I0 (x := 65) (by omega) (Nat.le_of_ble_eq_true rfl) lI65
  obtain ⟨h2, g2, I2⟩ := q_says I1 (a := 119) (b := 49) (d := 48 + x % 10) (e := 119) (by omega) (by omega) (by omega) (by omega) (Nat.le_of_ble_eq_true rfl) lI119 lI49 (pmod lI48 lI10 hx (by decide) (by decide)) lI119
  obtain ⟨h3, g3, I3⟩ := q_says I2 (a := 50) (b := 48 + x / 3 % 10) (d := 111) (e := 48) (by omega) (by omega) (by omega) (by omega) (Nat.le_of_ble_eq_true rfl) lI50 (pdm lI48 lI3 lI10 hx (by decide) (by decide) (by decide) (by decide)) lI111 lI48
  obtain ⟨h4, g4, I4⟩ := q_says I3 (a := 48) (b := 48 + x % 10) (d := 51) (e := 111) (by omega) (by omega) (by omega) (by omega) (Nat.le_of_ble_eq_true rfl) lI48 (pmod lI48 lI10 hx (by decide) (by decide)) lI51 lI111
  obtain ⟨h5, g5, I5⟩ := q_says I4 (a := 49) (b := 48) (d := 48 + x / 7 % 10) (e := 50) (by omega) (by omega) (by omega) (by omega) (Nat.le_of_ble_eq_true rfl) lI49 lI48 (pdm lI48 lI7 lI10 hx (by decide) (by decide) (by decide) (by decide)) lI50
  have I5 : CI B h5 (z, ys, c, kb, ks, tOf t (hdL x), (hdL x).length) := I5
  obtain ⟨j, hj⟩ : ∃ j, j = (1 + x % 4).toNat := ⟨_, rfl⟩
  have lh : (hdL x).length = 17 := rfl
  obtain ⟨h6, g6, I6⟩ := q_111 hx j 0 4096 (hdL x) h5 (by omega) (by omega) (by omega) I5
  have lb : (hdL x ++ bls x j 0).length = 17 + 9 * j := by rw [List.length_append, bls_len]; rfl
  have et : hdL x ++ bls x j 0 ++ tlL x = tolL x := by rw [List.append_assoc, tolL, ← hj]
  obtain ⟨h7, g7, I7⟩ := q_220 hx I6 (by omega) (by rw [et]; exact tol_err hx.1 t)
  rw [et] at I7
  refine ⟨h7, ?_, I7⟩
  unfold f_Q_told
  rw [g0, Option.bind_some]
  show (if iI n < 0 then _ else _) = _
  rw [if_neg (by rw [lI0]; exact mt (iI_lt (by omega) (by omega) (by omega) (by omega)).mp (by omega))]
  refine sta g1 (li_p (Nat.zero_le _)) ?_
  refine std g2 ?_
  refine std g3 ?_
  refine std g4 ?_
  refine std g5 ?_
  show f_Q_told_111 4096 180 (iI x) 1 (0 : Int32) h5 = _
  rw [lI0]
  exact g6.trans g7
end TOLD
