/-! the text's commands: the reference, letter by letter -/
section CMDX
variable {h g : HP} {t z : Nat → Int} {n : Nat} {B : Int}
theorem u188 (z : Nat → Int) : uI z 188 (z 188 + 0) = z := by
  funext k
  by_cases c : k = 188
  · rw [c, uI_s, Int.add_zero]
  · rw [uI_n _ _ c]
theorem exR_n (r : Nat) (a b c : Int) (z : Nat → Int) : (exR r a b c z).1 = false → (exR r a b c z).2 = z := by
  unfold exR doW doO doD doP doL doS doN doE
  repeat' split
  all_goals intro q
  all_goals first | rfl | exact absurd (show true = false from q) (by decide) | exact u188 z
theorem exR_ok (K : OKz B z) (r : Nat) (a b c : Int) : OKz (B + 42000) (exR r a b c z).2 := by
  have K' : OKz (B + 42000) z := K.mono (by omega)
  unfold exR
  repeat' split
  all_goals first | exact doP_ok K' _ _ _ _ | exact doS_ok K' _ _ _ | exact doL_ok K' _ | exact doN_ok K _ | exact doE_ok K' _ _ | exact doO_ok K' _ _ _ | exact doW_ok K' _ | exact doD_ok K' _ _ _
theorem nb1_k {r i : Nat} {s : Bool × Nat} (c : (nb1 t n r i s).2.1 = true) : s.1 = true := by
  cases q : s.1 with
  | true => rfl
  | false =>
    rw [nb1_f r i s q, q] at c
    exact absurd c (by decide)
theorem dec_c {c d : Prop} [Decidable c] [Decidable d] (e : c ↔ d) : decide c = decide d := by
  by_cases q : c
  · rw [decide_eq_true q, decide_eq_true (e.mp q)]
  · rw [decide_eq_false q, decide_eq_false (fun x => q (e.mpr x))]
theorem ite1 {c : Prop} [Decidable c] (y y' : Nat → Int) : (if c then ((true, y) : Rw) else (false, y')).1 = decide c := by
  by_cases q : c
  · rw [if_pos q, decide_eq_true q]
  · rw [if_neg q, decide_eq_false q]
theorem bI1 : (1 : Int32) = iI (boI true) := by decide
theorem bI0 : (0 : Int32) = iI (boI false) := by decide
theorem m_o (T : TxM h t n) {pos : Nat} (hp : pos ≤ 300) (M : MSt h true pos) {lo : Int} (m3 : h 200 15 = iI lo) (R : RepM h 203 z) (K : OKz B z) (hB : B < 2147483648) : ∃ v h', f_M_readOutlet h 200 = some (v, h') ∧ FinM h h' (qC t n 1 pos).2 lo (exR 1 (qA t n 1 pos).1 (qB t n 1 pos).1 (qC t n 1 pos).1 z) z := by
  have F := K.1
  obtain ⟨⟨w1, w2⟩, ⟨n1, n2⟩, -⟩ := id F
  have hN := exR_n 1 (qA t n 1 pos).1 (qB t n 1 pos).1 (qC t n 1 pos).1 z
  have eA : qA t n 1 pos = dgS t n 0 3 (true, pos) := rfl
  have bA := nb1_b (t := t) (n := n) T.b (r := 1) (i := 0) (by decide) (by decide) (true, pos)
  have kA := nb1_k (t := t) (n := n) (r := 1) (i := 0) (s := (true, pos))
  rw [show nb1 t n 1 0 (true, pos) = qA t n 1 pos from rfl] at bA kA
  rw [show (gr 1 0).2.1 = 0 from rfl, show (gr 1 0).2.2 = 3 from rfl] at bA
  have eB : qB t n 1 pos = twS t n 0 29 (qA t n 1 pos).2 := rfl
  have bB := nb1_b (t := t) (n := n) T.b (r := 1) (i := 1) (by decide) (by decide) (qA t n 1 pos).2
  have kB := nb1_k (t := t) (n := n) (r := 1) (i := 1) (s := (qA t n 1 pos).2)
  rw [show nb1 t n 1 1 (qA t n 1 pos).2 = qB t n 1 pos from rfl] at bB kB
  rw [show (gr 1 1).2.1 = 0 from rfl, show (gr 1 1).2.2 = 29 from rfl] at bB
  have eC : qC t n 1 pos = dgS t n 0 4 (qB t n 1 pos).2 := rfl
  have bC := nb1_b (t := t) (n := n) T.b (r := 1) (i := 2) (by decide) (by decide) (qB t n 1 pos).2
  have kC := nb1_k (t := t) (n := n) (r := 1) (i := 2) (s := (qB t n 1 pos).2)
  rw [show nb1 t n 1 2 (qB t n 1 pos).2 = qC t n 1 pos from rfl] at bC kC
  rw [show (gr 1 2).2.1 = 0 from rfl, show (gr 1 2).2.2 = 4 from rfl] at bC
  generalize qA t n 1 pos = A at *
  generalize qB t n 1 pos = B at *
  generalize qC t n 1 pos = C at *
  dsimp only at bA
  obtain ⟨h1, a1, a2, a3, a4⟩ := m_digit T (gd := true) (pos := pos) (by omega) M (lo := 0) (hi := 3) (by omega) (by omega) (by omega)
  rw [← eA] at a1 a2
  have T1 : TxM h1 t n := T.fr (a4 12 (by decide) (by decide)) (a3 210 (by decide))
  obtain ⟨h2, b1, b2, b3, b4⟩ := m_two T1 (gd := A.2.1) (pos := A.2.2) (by omega) a2 (lo := 0) (hi := 29) (by omega) (by omega) (by omega)
  rw [show ((A.2.1, A.2.2) : Bool × Nat) = A.2 from rfl] at b1 b2
  rw [← eB] at b1 b2
  have T2 : TxM h2 t n := T1.fr (b4 12 (by decide) (by decide)) (b3 210 (by decide))
  obtain ⟨h3, c1, c2, c3, c4⟩ := m_digit T2 (gd := B.2.1) (pos := B.2.2) (by omega) b2 (lo := 0) (hi := 4) (by omega) (by omega) (by omega)
  rw [show ((B.2.1, B.2.2) : Bool × Nat) = B.2 from rfl] at c1 c2
  rw [← eC] at c1 c2
  have T3 : TxM h3 t n := T2.fr (c4 12 (by decide) (by decide)) (c3 210 (by decide))
  have Fr : FrM h h3 := ⟨fun i i1 _ _ _ _ => by rw [c3 i i1, b3 i i1, a3 i i1], fun k k1 k2 _ => by rw [c4 k k1 k2, b4 k k1 k2, a4 k k1 k2]⟩
  have Rk : RepM h3 203 z := R.fr (by rw [c3 203 (by decide), b3 203 (by decide), a3 203 (by decide)])
  have mk : h3 200 15 = iI lo := by rw [c4 15 (by decide) (by decide), b4 15 (by decide) (by decide), a4 15 (by decide) (by decide)]; exact m3
  have eD : exR 1 A.1 B.1 C.1 z = doO z A.1 B.1 C.1 := rfl
  rw [eD] at hN ⊢
  have fin : ∃ r h', ((f_M_goes h3 200 (iI (boI (decide (okM z A.1 B.1))))).bind fun v9 => if v9.1 = 0 then some ((0 : Int32), v9.2) else (f_M_put v9.2 203 ((((31 : Int32) * iI A.1) + (1 : Int32)) + iI B.1) (iI C.1)).bind fun v12 => some (v12.1, v12.2)) = some (r, h') ∧ FinM h h' C.2 lo (doO z A.1 B.1 C.1) z := by
    refine m_fin (act := fun hh => f_M_put hh 203 ((((31 : Int32) * iI A.1) + (1 : Int32)) + iI B.1) (iI C.1)) c2 mk Rk Fr (fun cg => ?_) hN (fun cg cc hh Rh => ?_)
    · unfold doO
      rw [ite1]
      have := bC.2.2.2.2 cg
      exact dec_c ⟨fun x => ⟨x, this⟩, fun x => x.1⟩
    · have cm : okM z A.1 B.1 := of_decide_eq_true cc
      have hL := F.2.2.2.1 A.1.toNat (by omega)
      have := bC.2.2.2.2 cg
      obtain ⟨h', p1, p2, p3⟩ := m_put Rh (k := 31 * A.1 + 1 + B.1) (by omega) (by omega) C.1
      refine ⟨iI (z (31 * A.1 + 1 + B.1).toNat), h', ?_, ?_, fun i i1 _ _ _ => p3 i i1⟩
      · show f_M_put hh 203 ((((31 : Int32) * iI A.1) + (1 : Int32)) + iI B.1) (iI C.1) = _
        rw [lI31, iI_mul, lI1, iI_add, iI_add, p1]
      · unfold doO
        rw [if_pos ⟨cm, this⟩, show 31 * A.1.toNat + 1 + B.1.toNat = (31 * A.1 + 1 + B.1).toNat by omega]
        exact p2
  unfold f_M_readOutlet
  rw [show f_M_digit h 200 0 3 = _ from a1, Option.bind_some, show f_M_two h1 200 0 29 = _ from b1, Option.bind_some, show f_M_digit h2 200 0 4 = _ from c1, Option.bind_some, fA3, m_isMetre Rk F ⟨by omega, by omega⟩ ⟨by omega, by omega⟩, Option.bind_some, ite_bo]
  exact fin
theorem m_d (T : TxM h t n) {pos : Nat} (hp : pos ≤ 300) (M : MSt h true pos) {lo : Int} (m3 : h 200 15 = iI lo) (R : RepM h 203 z) (K : OKz B z) (hB : B < 2147483648) : ∃ v h', f_M_readDealer h 200 = some (v, h') ∧ FinM h h' (qC t n 2 pos).2 lo (exR 2 (qA t n 2 pos).1 (qB t n 2 pos).1 (qC t n 2 pos).1 z) z := by
  have F := K.1
  obtain ⟨⟨w1, w2⟩, ⟨n1, n2⟩, -⟩ := id F
  have hN := exR_n 2 (qA t n 2 pos).1 (qB t n 2 pos).1 (qC t n 2 pos).1 z
  have eA : qA t n 2 pos = dgS t n 0 5 (true, pos) := rfl
  have bA := nb1_b (t := t) (n := n) T.b (r := 2) (i := 0) (by decide) (by decide) (true, pos)
  have kA := nb1_k (t := t) (n := n) (r := 2) (i := 0) (s := (true, pos))
  rw [show nb1 t n 2 0 (true, pos) = qA t n 2 pos from rfl] at bA kA
  rw [show (gr 2 0).2.1 = 0 from rfl, show (gr 2 0).2.2 = 5 from rfl] at bA
  have eB : qB t n 2 pos = dgS t n 1 9 (qA t n 2 pos).2 := rfl
  have bB := nb1_b (t := t) (n := n) T.b (r := 2) (i := 1) (by decide) (by decide) (qA t n 2 pos).2
  have kB := nb1_k (t := t) (n := n) (r := 2) (i := 1) (s := (qA t n 2 pos).2)
  rw [show nb1 t n 2 1 (qA t n 2 pos).2 = qB t n 2 pos from rfl] at bB kB
  rw [show (gr 2 1).2.1 = 1 from rfl, show (gr 2 1).2.2 = 9 from rfl] at bB
  have eC : qC t n 2 pos = dgS t n 0 3 (qB t n 2 pos).2 := rfl
  have bC := nb1_b (t := t) (n := n) T.b (r := 2) (i := 2) (by decide) (by decide) (qB t n 2 pos).2
  have kC := nb1_k (t := t) (n := n) (r := 2) (i := 2) (s := (qB t n 2 pos).2)
  rw [show nb1 t n 2 2 (qB t n 2 pos).2 = qC t n 2 pos from rfl] at bC kC
  rw [show (gr 2 2).2.1 = 0 from rfl, show (gr 2 2).2.2 = 3 from rfl] at bC
  generalize qA t n 2 pos = A at *
  generalize qB t n 2 pos = B at *
  generalize qC t n 2 pos = C at *
  dsimp only at bA
  obtain ⟨h1, a1, a2, a3, a4⟩ := m_digit T (gd := true) (pos := pos) (by omega) M (lo := 0) (hi := 5) (by omega) (by omega) (by omega)
  rw [← eA] at a1 a2
  have T1 : TxM h1 t n := T.fr (a4 12 (by decide) (by decide)) (a3 210 (by decide))
  obtain ⟨h2, b1, b2, b3, b4⟩ := m_digit T1 (gd := A.2.1) (pos := A.2.2) (by omega) a2 (lo := 1) (hi := 9) (by omega) (by omega) (by omega)
  rw [show ((A.2.1, A.2.2) : Bool × Nat) = A.2 from rfl] at b1 b2
  rw [← eB] at b1 b2
  have T2 : TxM h2 t n := T1.fr (b4 12 (by decide) (by decide)) (b3 210 (by decide))
  obtain ⟨h3, c1, c2, c3, c4⟩ := m_digit T2 (gd := B.2.1) (pos := B.2.2) (by omega) b2 (lo := 0) (hi := 3) (by omega) (by omega) (by omega)
  rw [show ((B.2.1, B.2.2) : Bool × Nat) = B.2 from rfl] at c1 c2
  rw [← eC] at c1 c2
  have T3 : TxM h3 t n := T2.fr (c4 12 (by decide) (by decide)) (c3 210 (by decide))
  have Fr : FrM h h3 := ⟨fun i i1 _ _ _ _ => by rw [c3 i i1, b3 i i1, a3 i i1], fun k k1 k2 _ => by rw [c4 k k1 k2, b4 k k1 k2, a4 k k1 k2]⟩
  have Rk : RepM h3 203 z := R.fr (by rw [c3 203 (by decide), b3 203 (by decide), a3 203 (by decide)])
  have mk : h3 200 15 = iI lo := by rw [c4 15 (by decide) (by decide), b4 15 (by decide) (by decide), a4 15 (by decide) (by decide)]; exact m3
  have eD : exR 2 A.1 B.1 C.1 z = doD z A.1 B.1 C.1 := rfl
  rw [eD] at hN ⊢
  have fin : ∃ r h', f_M_readDealer_41 200 (iI A.1) (iI B.1) (iI C.1) 200 (iI (boI (decide (z 185 < 10)))) h3 = some (r, h') ∧ FinM h h' C.2 lo (doD z A.1 B.1 C.1) z := by
    unfold f_M_readDealer_41
    refine m_fin (act := fun hh => f_M_addDealer hh (fld 200 3) (iI A.1) (iI B.1) (iI C.1)) c2 mk Rk Fr (fun cg => ?_) hN (fun cg cc hh Rh => ?_)
    · unfold doD
      rw [ite1]
      have x1 := bC.2.2.2.2 cg
      have x2 := bB.2.2.2.2 (kC cg)
      have x3 := bA.2.2.2.2 (kB (kC cg))
      exact dec_c ⟨fun x => ⟨⟨x3, x2, x1⟩, x⟩, fun x => x.2⟩
    · have cm : z 185 < 10 := of_decide_eq_true cc
      have x1 := bC.2.2.2.2 cg
      have x2 := bB.2.2.2.2 (kC cg)
      have x3 := bA.2.2.2.2 (kB (kC cg))
      obtain ⟨h', p1, p2, p3⟩ := m_addDealer Rh F cm A.1 B.1 C.1
      refine ⟨_, h', p1, ?_, fun i i1 _ _ _ => p3 i i1⟩
      unfold doD
      rw [if_pos ⟨⟨x3, x2, x1⟩, cm⟩]
      exact p2
  unfold f_M_readDealer
  rw [show f_M_digit h 200 0 5 = _ from a1, Option.bind_some, show f_M_digit h1 200 1 9 = _ from b1, Option.bind_some, show f_M_digit h2 200 0 3 = _ from c1, Option.bind_some, ib_185, if_pos rfl, fA3, cl_185]
  show ∃ v h', (if (10 : Int32) ≤ h3 203 185 then f_M_readDealer_41 200 (iI A.1) (iI B.1) (iI C.1) 200 0 h3 else f_M_readDealer_41 200 (iI A.1) (iI B.1) (iI C.1) 200 1 h3) = some (v, h') ∧ FinM h h' C.2 lo (doD z A.1 B.1 C.1) z
  rw [Rk.c185, lI10, tLe (by omega) (by omega) (by omega) (by omega)]
  by_cases c : z 185 < 10
  · rw [decide_eq_true c] at fin
    rw [if_neg (by omega)]
    exact fin
  · rw [decide_eq_false c] at fin
    rw [if_pos (by omega)]
    exact fin
theorem m_p (T : TxM h t n) {pos : Nat} (hp : pos ≤ 300) (M : MSt h true pos) {lo : Int} (m3 : h 200 15 = iI lo) (R : RepM h 203 z) (K : OKz B z) (hB : B < 2147483648) : ∃ v h', f_M_readPlace h 200 = some (v, h') ∧ FinM h h' (qC t n 3 pos).2 lo (exR 3 (qA t n 3 pos).1 (qB t n 3 pos).1 (qC t n 3 pos).1 z) z := by
  have F := K.1
  obtain ⟨⟨w1, w2⟩, ⟨n1, n2⟩, -⟩ := id F
  have hN := exR_n 3 (qA t n 3 pos).1 (qB t n 3 pos).1 (qC t n 3 pos).1 z
  have eA : qA t n 3 pos = dgS t n 0 9 (true, pos) := rfl
  have bA := nb1_b (t := t) (n := n) T.b (r := 3) (i := 0) (by decide) (by decide) (true, pos)
  have kA := nb1_k (t := t) (n := n) (r := 3) (i := 0) (s := (true, pos))
  rw [show nb1 t n 3 0 (true, pos) = qA t n 3 pos from rfl] at bA kA
  rw [show (gr 3 0).2.1 = 0 from rfl, show (gr 3 0).2.2 = 9 from rfl] at bA
  have eB : qB t n 3 pos = dgS t n 0 3 (qA t n 3 pos).2 := rfl
  have bB := nb1_b (t := t) (n := n) T.b (r := 3) (i := 1) (by decide) (by decide) (qA t n 3 pos).2
  have kB := nb1_k (t := t) (n := n) (r := 3) (i := 1) (s := (qA t n 3 pos).2)
  rw [show nb1 t n 3 1 (qA t n 3 pos).2 = qB t n 3 pos from rfl] at bB kB
  rw [show (gr 3 1).2.1 = 0 from rfl, show (gr 3 1).2.2 = 3 from rfl] at bB
  have eC : qC t n 3 pos = twS t n 0 29 (qB t n 3 pos).2 := rfl
  have bC := nb1_b (t := t) (n := n) T.b (r := 3) (i := 2) (by decide) (by decide) (qB t n 3 pos).2
  have kC := nb1_k (t := t) (n := n) (r := 3) (i := 2) (s := (qB t n 3 pos).2)
  rw [show nb1 t n 3 2 (qB t n 3 pos).2 = qC t n 3 pos from rfl] at bC kC
  rw [show (gr 3 2).2.1 = 0 from rfl, show (gr 3 2).2.2 = 29 from rfl] at bC
  generalize qA t n 3 pos = A at *
  generalize qB t n 3 pos = B at *
  generalize qC t n 3 pos = C at *
  dsimp only at bA
  obtain ⟨h1, a1, a2, a3, a4⟩ := m_digit T (gd := true) (pos := pos) (by omega) M (lo := 0) (hi := 9) (by omega) (by omega) (by omega)
  rw [← eA] at a1 a2
  have T1 : TxM h1 t n := T.fr (a4 12 (by decide) (by decide)) (a3 210 (by decide))
  obtain ⟨h2, b1, b2, b3, b4⟩ := m_digit T1 (gd := A.2.1) (pos := A.2.2) (by omega) a2 (lo := 0) (hi := 3) (by omega) (by omega) (by omega)
  rw [show ((A.2.1, A.2.2) : Bool × Nat) = A.2 from rfl] at b1 b2
  rw [← eB] at b1 b2
  have T2 : TxM h2 t n := T1.fr (b4 12 (by decide) (by decide)) (b3 210 (by decide))
  obtain ⟨h3, c1, c2, c3, c4⟩ := m_two T2 (gd := B.2.1) (pos := B.2.2) (by omega) b2 (lo := 0) (hi := 29) (by omega) (by omega) (by omega)
  rw [show ((B.2.1, B.2.2) : Bool × Nat) = B.2 from rfl] at c1 c2
  rw [← eC] at c1 c2
  have T3 : TxM h3 t n := T2.fr (c4 12 (by decide) (by decide)) (c3 210 (by decide))
  have Fr : FrM h h3 := ⟨fun i i1 _ _ _ _ => by rw [c3 i i1, b3 i i1, a3 i i1], fun k k1 k2 _ => by rw [c4 k k1 k2, b4 k k1 k2, a4 k k1 k2]⟩
  have Rk : RepM h3 203 z := R.fr (by rw [c3 203 (by decide), b3 203 (by decide), a3 203 (by decide)])
  have mk : h3 200 15 = iI lo := by rw [c4 15 (by decide) (by decide), b4 15 (by decide) (by decide), a4 15 (by decide) (by decide)]; exact m3
  have eD : exR 3 A.1 B.1 C.1 z = doP 0 z A.1 B.1 C.1 := rfl
  rw [eD] at hN ⊢
  have e1 : (doP 0 z A.1 B.1 C.1).1 = decide ((okD z A.1 ∧ okM z B.1 C.1) ∧ rsnP z A.1.toNat B.1 C.1 = 0) := by
    unfold doP
    by_cases x : okD z A.1 ∧ okM z B.1 C.1
    · rw [if_pos x, ite1]
      exact dec_c ⟨fun y => ⟨x, y⟩, fun y => y.2⟩
    · rw [if_neg x, decide_eq_false (fun y => x y.1)]
  have fin : ∃ r h', f_M_readPlace_64 200 (iI A.1) (iI B.1) (iI C.1) (iI (boI (decide ((okD z A.1 ∧ okM z B.1 C.1) ∧ rsnP z A.1.toNat B.1 C.1 = 0)))) h3 = some (r, h') ∧ FinM h h' C.2 lo (doP 0 z A.1 B.1 C.1) z := by
    unfold f_M_readPlace_64
    refine m_fin (act := fun hh => f_M_goPlace hh (fld 200 3) (iI A.1) (iI B.1) (iI C.1)) c2 mk Rk Fr (fun cg => e1.symm) hN (fun cg cc hh Rh => ?_)
    obtain ⟨⟨cd, cm⟩, c0⟩ := of_decide_eq_true cc
    have hL := F.2.2.2.1 B.1.toNat (by omega)
    obtain ⟨h', p1, p2, p3⟩ := m_goPlace Rh F (d := A.1.toNat) (by omega) (by omega) (w := B.1) (f := C.1) ⟨by omega, by omega⟩ ⟨by omega, by omega⟩
    rw [show ((A.1.toNat : Nat) : Int) = A.1 by omega] at p1
    rw [if_pos c0] at p2
    refine ⟨_, h', p1, ?_, fun i i1 _ _ _ => p3 i i1⟩
    unfold doP
    rw [if_pos ⟨cd, cm⟩, if_pos c0]
    exact p2
  have bad : ¬ ((okD z A.1 ∧ okM z B.1 C.1) ∧ rsnP z A.1.toNat B.1 C.1 = 0) → ∃ r h', f_M_readPlace_63 200 (iI A.1) (iI B.1) (iI C.1) h3 = some (r, h') ∧ FinM h h' C.2 lo (doP 0 z A.1 B.1 C.1) z := fun x => by
    rw [decide_eq_false x] at fin
    exact fin
  unfold f_M_readPlace
  rw [show (9 : Int32) = iI 9 from lI9, show f_M_digit h 200 0 (iI 9) = _ from a1, Option.bind_some, show f_M_digit h1 200 0 3 = _ from b1, Option.bind_some, show f_M_two h2 200 0 29 = _ from c1, Option.bind_some, fA3, m_isDealer Rk F ⟨by omega, by omega⟩, Option.bind_some]
  by_cases cd : okD z A.1
  · rw [if_pos cd, if_neg (by decide), m_isMetre Rk F ⟨by omega, by omega⟩ ⟨by omega, by omega⟩, Option.bind_some]
    by_cases cm : okM z B.1 C.1
    · have hL := F.2.2.2.1 B.1.toNat (by omega)
      have ew := m_why Rk F (d := A.1.toNat) (by omega) (by omega) (w := B.1) (f := C.1) ⟨by omega, by omega⟩ ⟨by omega, by omega⟩
      rw [show ((A.1.toNat : Nat) : Int) = A.1 by omega] at ew
      have hr := rsnP_b z A.1.toNat B.1 C.1
      rw [if_pos cm, if_neg (by decide), ew, Option.bind_some, lI0, tEq (by omega) (by omega) (by omega) (by omega)]
      by_cases c0 : rsnP z A.1.toNat B.1 C.1 = 0
      · rw [decide_eq_true ⟨⟨cd, cm⟩, c0⟩] at fin
        rw [if_pos c0]
        exact fin
      · rw [if_neg c0]
        exact bad (fun x => c0 x.2)
    · rw [if_neg cm, if_pos rfl]
      exact bad (fun x => cm x.1.2)
  · rw [if_neg cd, if_pos rfl]
    exact bad (fun x => cd x.1.1)
theorem m_s (T : TxM h t n) {pos : Nat} (hp : pos ≤ 300) (M : MSt h true pos) {lo : Int} (m3 : h 200 15 = iI lo) (R : RepM h 203 z) (K : OKz B z) (hB : B < 2147483648) : ∃ v h', f_M_readSwap h 200 = some (v, h') ∧ FinM h h' (qC t n 5 pos).2 lo (exR 5 (qA t n 5 pos).1 (qB t n 5 pos).1 (qC t n 5 pos).1 z) z := by
  have F := K.1
  obtain ⟨⟨w1, w2⟩, ⟨n1, n2⟩, -⟩ := id F
  have hN := exR_n 5 (qA t n 5 pos).1 (qB t n 5 pos).1 (qC t n 5 pos).1 z
  have eA : qA t n 5 pos = dgS t n 0 9 (true, pos) := rfl
  have bA := nb1_b (t := t) (n := n) T.b (r := 5) (i := 0) (by decide) (by decide) (true, pos)
  have kA := nb1_k (t := t) (n := n) (r := 5) (i := 0) (s := (true, pos))
  rw [show nb1 t n 5 0 (true, pos) = qA t n 5 pos from rfl] at bA kA
  rw [show (gr 5 0).2.1 = 0 from rfl, show (gr 5 0).2.2 = 9 from rfl] at bA
  have eB : qB t n 5 pos = dgS t n 0 9 (qA t n 5 pos).2 := rfl
  have bB := nb1_b (t := t) (n := n) T.b (r := 5) (i := 1) (by decide) (by decide) (qA t n 5 pos).2
  have kB := nb1_k (t := t) (n := n) (r := 5) (i := 1) (s := (qA t n 5 pos).2)
  rw [show nb1 t n 5 1 (qA t n 5 pos).2 = qB t n 5 pos from rfl] at bB kB
  rw [show (gr 5 1).2.1 = 0 from rfl, show (gr 5 1).2.2 = 9 from rfl] at bB
  have eC : qC t n 5 pos = (0, (qB t n 5 pos).2) := rfl
  have bC := nb1_b (t := t) (n := n) T.b (r := 5) (i := 2) (by decide) (by decide) (qB t n 5 pos).2
  have kC := nb1_k (t := t) (n := n) (r := 5) (i := 2) (s := (qB t n 5 pos).2)
  rw [show nb1 t n 5 2 (qB t n 5 pos).2 = qC t n 5 pos from rfl] at bC kC
  rw [show (gr 5 2).2.1 = 0 from rfl, show (gr 5 2).2.2 = 0 from rfl] at bC
  generalize qA t n 5 pos = A at *
  generalize qB t n 5 pos = B at *
  generalize qC t n 5 pos = C at *
  dsimp only at bA
  obtain ⟨h1, a1, a2, a3, a4⟩ := m_digit T (gd := true) (pos := pos) (by omega) M (lo := 0) (hi := 9) (by omega) (by omega) (by omega)
  rw [← eA] at a1 a2
  have T1 : TxM h1 t n := T.fr (a4 12 (by decide) (by decide)) (a3 210 (by decide))
  obtain ⟨h2, b1, b2, b3, b4⟩ := m_digit T1 (gd := A.2.1) (pos := A.2.2) (by omega) a2 (lo := 0) (hi := 9) (by omega) (by omega) (by omega)
  rw [show ((A.2.1, A.2.2) : Bool × Nat) = A.2 from rfl] at b1 b2
  rw [← eB] at b1 b2
  have T2 : TxM h2 t n := T1.fr (b4 12 (by decide) (by decide)) (b3 210 (by decide))
  have Fr : FrM h h2 := ⟨fun i i1 _ _ _ _ => by rw [b3 i i1, a3 i i1], fun k k1 k2 _ => by rw [b4 k k1 k2, a4 k k1 k2]⟩
  have Rk : RepM h2 203 z := R.fr (by rw [b3 203 (by decide), a3 203 (by decide)])
  have mk : h2 200 15 = iI lo := by rw [b4 15 (by decide) (by decide), a4 15 (by decide) (by decide)]; exact m3
  have eD : exR 5 A.1 B.1 C.1 z = doS 0 z A.1 B.1 := rfl
  rw [eD] at hN ⊢
  have eC2 : C.2 = B.2 := by rw [eC]
  rw [eC2]
  have e1 : (doS 0 z A.1 B.1).1 = decide ((okD z A.1 ∧ okD z B.1 ∧ A.1 ≠ B.1) ∧ rsnS z A.1.toNat B.1.toNat = 0) := by
    unfold doS
    by_cases x : okD z A.1 ∧ okD z B.1 ∧ A.1 ≠ B.1
    · rw [if_pos x, ite1]
      exact dec_c ⟨fun y => ⟨x, y⟩, fun y => y.2⟩
    · rw [if_neg x, decide_eq_false (fun y => x y.1)]
  have fin : ∀ hq, RepM hq 203 z → (∀ i, i ≠ 203 → hq i = h2 i) → ∃ r h', f_M_readSwap_60 200 (iI A.1) (iI B.1) (iI (boI (decide ((okD z A.1 ∧ okD z B.1 ∧ A.1 ≠ B.1) ∧ rsnS z A.1.toNat B.1.toNat = 0)))) hq = some (r, h') ∧ FinM h h' B.2 lo (doS 0 z A.1 B.1) z := fun hq Rq fq => by
    unfold f_M_readSwap_60
    have Mq : MSt hq B.2.1 B.2.2 := ⟨by rw [fq 200 (by decide)]; exact b2.1, by rw [fq 200 (by decide)]; exact b2.2⟩
    refine m_fin (act := fun hh => f_M_goSwap hh (fld 200 3) (iI A.1) (iI B.1)) Mq (by rw [fq 200 (by decide)]; exact mk) Rq (Fr.trans (FrM.of (fun i i1 _ _ _ => fq i i1))) (fun cg => e1.symm) hN (fun cg cc hh Rh => ?_)
    obtain ⟨⟨cd, ce, cn⟩, c0⟩ := of_decide_eq_true cc
    obtain ⟨h', p1, p2, p3⟩ := m_goSwap Rh F (x := A.1.toNat) (y := B.1.toNat) (by omega) (by omega) (by omega) (by omega) (by omega)
    rw [show ((A.1.toNat : Nat) : Int) = A.1 by omega, show ((B.1.toNat : Nat) : Int) = B.1 by omega] at p1
    rw [if_pos c0] at p2
    refine ⟨_, h', p1, ?_, fun i i1 _ _ _ => p3 i i1⟩
    unfold doS
    rw [if_pos ⟨cd, ce, cn⟩, if_pos c0]
    exact p2
  have bad : ∀ hq, RepM hq 203 z → (∀ i, i ≠ 203 → hq i = h2 i) → ¬ ((okD z A.1 ∧ okD z B.1 ∧ A.1 ≠ B.1) ∧ rsnS z A.1.toNat B.1.toNat = 0) → ∃ r h', f_M_readSwap_59 200 (iI A.1) (iI B.1) hq = some (r, h') ∧ FinM h h' B.2 lo (doS 0 z A.1 B.1) z := fun hq Rq fq x => by
    have := fin hq Rq fq
    rw [decide_eq_false x] at this
    exact this
  unfold f_M_readSwap
  rw [show f_M_digit h 200 0 9 = _ from a1, Option.bind_some, show f_M_digit h1 200 0 9 = _ from b1, Option.bind_some, fA3, m_isDealer Rk F ⟨by omega, by omega⟩, Option.bind_some]
  by_cases cd : okD z A.1
  · rw [if_pos cd, if_neg (by decide), m_isDealer Rk F ⟨by omega, by omega⟩, Option.bind_some]
    by_cases ce : okD z B.1
    · rw [if_pos ce, if_neg (by decide), tEq (by omega) (by omega) (by omega) (by omega)]
      by_cases cn : A.1 = B.1
      · rw [if_pos cn]
        exact bad h2 Rk (fun _ _ => rfl) (fun x => x.1.2.2 cn)
      · obtain ⟨hq, s1, s2, s3⟩ := m_swapR Rk F (x := A.1.toNat) (y := B.1.toNat) (by omega) (by omega) (by omega) (by omega) (by omega)
        rw [show ((A.1.toNat : Nat) : Int) = A.1 by omega, show ((B.1.toNat : Nat) : Int) = B.1 by omega] at s1
        have hr := rsnS_b z A.1.toNat B.1.toNat
        rw [if_neg cn, s1, Option.bind_some]
        dsimp only
        rw [lI0, tEq (by omega) (by omega) (by omega) (by omega)]
        by_cases c0 : rsnS z A.1.toNat B.1.toNat = 0
        · have ff := fin hq s2 s3
          rw [decide_eq_true ⟨⟨cd, ce, cn⟩, c0⟩] at ff
          rw [if_pos c0]
          exact ff
        · rw [if_neg c0]
          exact bad hq s2 s3 (fun x => c0 x.2)
    · rw [if_neg ce, if_pos rfl]
      exact bad h2 Rk (fun _ _ => rfl) (fun x => ce x.1.2.1)
  · rw [if_neg cd, if_pos rfl]
    exact bad h2 Rk (fun _ _ => rfl) (fun x => cd x.1.1)
theorem m_l (T : TxM h t n) {pos : Nat} (hp : pos ≤ 300) (M : MSt h true pos) {lo : Int} (m3 : h 200 15 = iI lo) (R : RepM h 203 z) (K : OKz B z) (hB : B < 2147483648) : ∃ v h', f_M_readRest h 200 (iI 108) = some (v, h') ∧ FinM h h' (qC t n 4 pos).2 lo (exR 4 (qA t n 4 pos).1 (qB t n 4 pos).1 (qC t n 4 pos).1 z) z := by
  have F := K.1
  obtain ⟨⟨w1, w2⟩, ⟨n1, n2⟩, -⟩ := id F
  have hN := exR_n 4 (qA t n 4 pos).1 (qB t n 4 pos).1 (qC t n 4 pos).1 z
  have eA : qA t n 4 pos = dgS t n 0 9 (true, pos) := rfl
  have bA := nb1_b (t := t) (n := n) T.b (r := 4) (i := 0) (by decide) (by decide) (true, pos)
  have kA := nb1_k (t := t) (n := n) (r := 4) (i := 0) (s := (true, pos))
  rw [show nb1 t n 4 0 (true, pos) = qA t n 4 pos from rfl] at bA kA
  rw [show (gr 4 0).2.1 = 0 from rfl, show (gr 4 0).2.2 = 9 from rfl] at bA
  have eB : qB t n 4 pos = (0, (qA t n 4 pos).2) := rfl
  have bB := nb1_b (t := t) (n := n) T.b (r := 4) (i := 1) (by decide) (by decide) (qA t n 4 pos).2
  have kB := nb1_k (t := t) (n := n) (r := 4) (i := 1) (s := (qA t n 4 pos).2)
  rw [show nb1 t n 4 1 (qA t n 4 pos).2 = qB t n 4 pos from rfl] at bB kB
  rw [show (gr 4 1).2.1 = 0 from rfl, show (gr 4 1).2.2 = 0 from rfl] at bB
  have eC : qC t n 4 pos = (0, (qB t n 4 pos).2) := rfl
  have bC := nb1_b (t := t) (n := n) T.b (r := 4) (i := 2) (by decide) (by decide) (qB t n 4 pos).2
  have kC := nb1_k (t := t) (n := n) (r := 4) (i := 2) (s := (qB t n 4 pos).2)
  rw [show nb1 t n 4 2 (qB t n 4 pos).2 = qC t n 4 pos from rfl] at bC kC
  rw [show (gr 4 2).2.1 = 0 from rfl, show (gr 4 2).2.2 = 0 from rfl] at bC
  generalize qA t n 4 pos = A at *
  generalize qB t n 4 pos = B at *
  generalize qC t n 4 pos = C at *
  dsimp only at bA
  obtain ⟨h1, a1, a2, a3, a4⟩ := m_digit T (gd := true) (pos := pos) (by omega) M (lo := 0) (hi := 9) (by omega) (by omega) (by omega)
  rw [← eA] at a1 a2
  have T1 : TxM h1 t n := T.fr (a4 12 (by decide) (by decide)) (a3 210 (by decide))
  have Fr : FrM h h1 := ⟨fun i i1 _ _ _ _ => by rw [a3 i i1], fun k k1 k2 _ => by rw [a4 k k1 k2]⟩
  have Rk : RepM h1 203 z := R.fr (by rw [a3 203 (by decide)])
  have mk : h1 200 15 = iI lo := by rw [a4 15 (by decide) (by decide)]; exact m3
  have eD : exR 4 A.1 B.1 C.1 z = doL z A.1 := rfl
  rw [eD] at hN ⊢
  have eC2 : C.2 = A.2 := by rw [eC, eB]
  rw [eC2]
  have e1 : (doL z A.1).1 = decide (okD z A.1 ∧ z (127 + 6 * A.1.toNat) ≠ -1) := by
    unfold doL
    rw [ite1]
  have fin : ∃ r h', f_M_readRest_117 200 (iI A.1) 200 (iI (boI (decide (okD z A.1 ∧ z (127 + 6 * A.1.toNat) ≠ -1)))) h1 = some (r, h') ∧ FinM h h' A.2 lo (doL z A.1) z := by
    unfold f_M_readRest_117
    refine m_fin (act := fun hh => f_M_goLeave hh (fld 200 3) (iI A.1)) a2 mk Rk Fr (fun cg => e1.symm) hN (fun cg cc hh Rh => ?_)
    have cx := of_decide_eq_true cc
    obtain ⟨h', p1, p2, p3⟩ := m_goLeave Rh (d := A.1.toNat) (by omega)
    rw [show ((A.1.toNat : Nat) : Int) = A.1 by omega] at p1
    refine ⟨_, h', p1, ?_, fun i i1 _ _ _ => p3 i i1⟩
    unfold doL
    rw [if_pos cx]
    exact p2
  unfold f_M_readRest
  rw [if_pos (by decide), show f_M_digit h 200 0 9 = _ from a1, Option.bind_some, fA3, m_isDealer Rk F ⟨by omega, by omega⟩, Option.bind_some]
  by_cases cd : okD z A.1
  · obtain ⟨d, hd, ed⟩ : ∃ d : Nat, (d : Int) < z 185 ∧ A.1 = d := ⟨A.1.toNat, by omega, by omega⟩
    have es := m_stands Rk F (d := d) (by omega) hd
    rw [← ed] at es
    have et : A.1.toNat = d := by omega
    rw [et] at fin
    rw [if_pos cd, if_neg (by decide), es, Option.bind_some]
    by_cases cs : z (127 + 6 * d) = -1
    · rw [decide_eq_false (fun x => x.2 cs)] at fin
      rw [if_pos cs, if_pos rfl]
      exact fin
    · rw [decide_eq_true ⟨cd, cs⟩] at fin
      rw [if_neg cs, if_neg (by decide)]
      exact fin
  · rw [decide_eq_false (fun x => cd x.1)] at fin
    rw [if_neg cd, if_pos rfl]
    exact fin
theorem m_n (T : TxM h t n) {pos : Nat} (hp : pos ≤ 300) (M : MSt h true pos) {lo : Int} (m3 : h 200 15 = iI lo) (R : RepM h 203 z) (K : OKz B z) (hB : B < 2147483648) : ∃ v h', f_M_readRest h 200 (iI 110) = some (v, h') ∧ FinM h h' (qC t n 6 pos).2 lo (exR 6 (qA t n 6 pos).1 (qB t n 6 pos).1 (qC t n 6 pos).1 z) z := by
  have F := K.1
  obtain ⟨⟨w1, w2⟩, ⟨n1, n2⟩, -⟩ := id F
  have hN := exR_n 6 (qA t n 6 pos).1 (qB t n 6 pos).1 (qC t n 6 pos).1 z
  have eA : qA t n 6 pos = twS t n 1 60 (true, pos) := rfl
  have bA := nb1_b (t := t) (n := n) T.b (r := 6) (i := 0) (by decide) (by decide) (true, pos)
  have kA := nb1_k (t := t) (n := n) (r := 6) (i := 0) (s := (true, pos))
  rw [show nb1 t n 6 0 (true, pos) = qA t n 6 pos from rfl] at bA kA
  rw [show (gr 6 0).2.1 = 1 from rfl, show (gr 6 0).2.2 = 60 from rfl] at bA
  have eB : qB t n 6 pos = (0, (qA t n 6 pos).2) := rfl
  have bB := nb1_b (t := t) (n := n) T.b (r := 6) (i := 1) (by decide) (by decide) (qA t n 6 pos).2
  have kB := nb1_k (t := t) (n := n) (r := 6) (i := 1) (s := (qA t n 6 pos).2)
  rw [show nb1 t n 6 1 (qA t n 6 pos).2 = qB t n 6 pos from rfl] at bB kB
  rw [show (gr 6 1).2.1 = 0 from rfl, show (gr 6 1).2.2 = 0 from rfl] at bB
  have eC : qC t n 6 pos = (0, (qB t n 6 pos).2) := rfl
  have bC := nb1_b (t := t) (n := n) T.b (r := 6) (i := 2) (by decide) (by decide) (qB t n 6 pos).2
  have kC := nb1_k (t := t) (n := n) (r := 6) (i := 2) (s := (qB t n 6 pos).2)
  rw [show nb1 t n 6 2 (qB t n 6 pos).2 = qC t n 6 pos from rfl] at bC kC
  rw [show (gr 6 2).2.1 = 0 from rfl, show (gr 6 2).2.2 = 0 from rfl] at bC
  generalize qA t n 6 pos = A at *
  generalize qB t n 6 pos = B at *
  generalize qC t n 6 pos = C at *
  dsimp only at bA
  obtain ⟨h1, a1, a2, a3, a4⟩ := m_two T (gd := true) (pos := pos) (by omega) M (lo := 1) (hi := 60) (by omega) (by omega) (by omega)
  rw [← eA] at a1 a2
  have T1 : TxM h1 t n := T.fr (a4 12 (by decide) (by decide)) (a3 210 (by decide))
  have Fr : FrM h h1 := ⟨fun i i1 _ _ _ _ => by rw [a3 i i1], fun k k1 k2 _ => by rw [a4 k k1 k2]⟩
  have Rk : RepM h1 203 z := R.fr (by rw [a3 203 (by decide)])
  have mk : h1 200 15 = iI lo := by rw [a4 15 (by decide) (by decide)]; exact m3
  have eD : exR 6 A.1 B.1 C.1 z = doN z A.1 := rfl
  rw [eD] at hN ⊢
  have eC2 : C.2 = A.2 := by rw [eC, eB]
  rw [eC2]
  unfold f_M_readRest
  rw [if_neg (by decide), if_pos (by decide), show f_M_two h 200 1 60 = _ from a1, Option.bind_some]
  show ∃ v h', (if h1 200 14 = 0 then some ((0 : Int32), h1) else (f_M_goDays h1 200 (fld 200 3) (iI A.1)).bind fun v14 => some (v14.1, v14.2)) = some (v, h') ∧ FinM h h' A.2 lo (doN z A.1) z
  rw [a2.2, bo0]
  by_cases cg : A.2.1 = true
  · have x := bA.2.2.2.2 cg
    obtain ⟨h', p1, p2, p3⟩ := m_goDays (Or.inr (Or.inr rfl)) F Rk (n := A.1.toNat) (by omega)
    rw [show ((A.1.toNat : Nat) : Int) = A.1 by omega] at p1
    have ed : doN z A.1 = (true, zdy z A.1.toNat) := if_pos x
    have e200 := p3 200 (by decide) (by decide) (by decide) (by decide)
    rw [if_pos cg, fA3, p1, Option.bind_some, ed]
    refine ⟨_, h', rfl, ⟨by rw [e200]; exact a2.1, by rw [e200]; exact a2.2⟩, ?_, ?_, Fr.trans (FrM.of p3)⟩
    · rw [e200, mk, cg]
      show iI lo = iI (lo + 0)
      rw [Int.add_zero]
    · rw [if_pos cg]; exact p2
  · have cg' : A.2.1 = false := by cases q : A.2.1 with | false => rfl | true => exact absurd q cg
    rw [if_neg cg]
    refine ⟨_, h1, rfl, a2, ?_, ?_, Fr⟩
    · rw [mk, cg']
      show iI lo = iI (lo + 0)
      rw [Int.add_zero]
    · rw [if_neg cg]; exact Rk
theorem m_w (T : TxM h t n) {pos : Nat} (hp : pos ≤ 300) (M : MSt h true pos) {lo : Int} (m3 : h 200 15 = iI lo) (R : RepM h 203 z) (K : OKz B z) (hB : B < 2147483648) : ∃ v h', f_M_readRest h 200 (iI 119) = some (v, h') ∧ FinM h h' (qC t n 0 pos).2 lo (exR 0 (qA t n 0 pos).1 (qB t n 0 pos).1 (qC t n 0 pos).1 z) z := by
  have F := K.1
  obtain ⟨⟨w1, w2⟩, ⟨n1, n2⟩, -⟩ := id F
  have hN := exR_n 0 (qA t n 0 pos).1 (qB t n 0 pos).1 (qC t n 0 pos).1 z
  have eA : qA t n 0 pos = twS t n 4 30 (true, pos) := rfl
  have bA := nb1_b (t := t) (n := n) T.b (r := 0) (i := 0) (by decide) (by decide) (true, pos)
  have kA := nb1_k (t := t) (n := n) (r := 0) (i := 0) (s := (true, pos))
  rw [show nb1 t n 0 0 (true, pos) = qA t n 0 pos from rfl] at bA kA
  rw [show (gr 0 0).2.1 = 4 from rfl, show (gr 0 0).2.2 = 30 from rfl] at bA
  have eB : qB t n 0 pos = (0, (qA t n 0 pos).2) := rfl
  have bB := nb1_b (t := t) (n := n) T.b (r := 0) (i := 1) (by decide) (by decide) (qA t n 0 pos).2
  have kB := nb1_k (t := t) (n := n) (r := 0) (i := 1) (s := (qA t n 0 pos).2)
  rw [show nb1 t n 0 1 (qA t n 0 pos).2 = qB t n 0 pos from rfl] at bB kB
  rw [show (gr 0 1).2.1 = 0 from rfl, show (gr 0 1).2.2 = 0 from rfl] at bB
  have eC : qC t n 0 pos = (0, (qB t n 0 pos).2) := rfl
  have bC := nb1_b (t := t) (n := n) T.b (r := 0) (i := 2) (by decide) (by decide) (qB t n 0 pos).2
  have kC := nb1_k (t := t) (n := n) (r := 0) (i := 2) (s := (qB t n 0 pos).2)
  rw [show nb1 t n 0 2 (qB t n 0 pos).2 = qC t n 0 pos from rfl] at bC kC
  rw [show (gr 0 2).2.1 = 0 from rfl, show (gr 0 2).2.2 = 0 from rfl] at bC
  generalize qA t n 0 pos = A at *
  generalize qB t n 0 pos = B at *
  generalize qC t n 0 pos = C at *
  dsimp only at bA
  obtain ⟨h1, a1, a2, a3, a4⟩ := m_two T (gd := true) (pos := pos) (by omega) M (lo := 4) (hi := 30) (by omega) (by omega) (by omega)
  rw [← eA] at a1 a2
  have T1 : TxM h1 t n := T.fr (a4 12 (by decide) (by decide)) (a3 210 (by decide))
  have Fr : FrM h h1 := ⟨fun i i1 _ _ _ _ => by rw [a3 i i1], fun k k1 k2 _ => by rw [a4 k k1 k2]⟩
  have Rk : RepM h1 203 z := R.fr (by rw [a3 203 (by decide)])
  have mk : h1 200 15 = iI lo := by rw [a4 15 (by decide) (by decide)]; exact m3
  have eD : exR 0 A.1 B.1 C.1 z = doW z A.1 := rfl
  rw [eD] at hN ⊢
  have eC2 : C.2 = A.2 := by rw [eC, eB]
  rw [eC2]
  have fin : ∃ r h', f_M_readRest_62 200 (iI A.1) 200 (iI (boI (decide (z 184 < 4)))) h1 = some (r, h') ∧ FinM h h' A.2 lo (doW z A.1) z := by
    unfold f_M_readRest_62
    refine m_fin (act := fun hh => f_M_addWall hh (fld 200 3) (iI A.1)) a2 mk Rk Fr (fun cg => ?_) hN (fun cg cc hh Rh => ?_)
    · unfold doW
      rw [ite1]
      have x := bA.2.2.2.2 cg
      exact dec_c ⟨fun y => ⟨x, y⟩, fun y => y.2⟩
    · have cx := of_decide_eq_true cc
      have x := bA.2.2.2.2 cg
      obtain ⟨h', p1, p2, p3⟩ := m_addWall Rh F cx A.1
      refine ⟨_, h', p1, ?_, fun i i1 _ _ _ => p3 i i1⟩
      unfold doW
      rw [if_pos ⟨x, cx⟩]
      exact p2
  unfold f_M_readRest
  rw [if_neg (by decide), if_neg (by decide), if_pos (by decide), show f_M_two h 200 4 30 = _ from a1, Option.bind_some, ib_184, if_pos rfl, fA3, cl_184]
  show ∃ v h', (if (4 : Int32) ≤ h1 203 184 then f_M_readRest_62 200 (iI A.1) 200 0 h1 else f_M_readRest_62 200 (iI A.1) 200 1 h1) = some (v, h') ∧ FinM h h' A.2 lo (doW z A.1) z
  rw [Rk.c184, lI4, tLe (by omega) (by omega) (by omega) (by omega)]
  by_cases c : z 184 < 4
  · rw [decide_eq_true c] at fin
    rw [if_neg (by omega)]
    exact fin
  · rw [decide_eq_false c] at fin
    rw [if_pos (by omega)]
    exact fin
theorem m_e (T : TxM h t n) {pos : Nat} (hp : pos ≤ 300) (M : MSt h true pos) {lo : Int} (m3 : h 200 15 = iI lo) (R : RepM h 203 z) (K : OKz B z) (hB : B < 2147483648) : ∃ v h', f_M_readRest h 200 (iI 101) = some (v, h') ∧ FinM h h' (qC t n 7 pos).2 lo (exR 7 (qA t n 7 pos).1 (qB t n 7 pos).1 (qC t n 7 pos).1 z) z := by
  have F := K.1
  obtain ⟨⟨w1, w2⟩, ⟨n1, n2⟩, -⟩ := id F
  have hN := exR_n 7 (qA t n 7 pos).1 (qB t n 7 pos).1 (qC t n 7 pos).1 z
  have eA : qA t n 7 pos = dgS t n 0 5 (true, pos) := rfl
  have bA := nb1_b (t := t) (n := n) T.b (r := 7) (i := 0) (by decide) (by decide) (true, pos)
  have kA := nb1_k (t := t) (n := n) (r := 7) (i := 0) (s := (true, pos))
  rw [show nb1 t n 7 0 (true, pos) = qA t n 7 pos from rfl] at bA kA
  rw [show (gr 7 0).2.1 = 0 from rfl, show (gr 7 0).2.2 = 5 from rfl] at bA
  have eB : qB t n 7 pos = twS t n 0 50 (qA t n 7 pos).2 := rfl
  have bB := nb1_b (t := t) (n := n) T.b (r := 7) (i := 1) (by decide) (by decide) (qA t n 7 pos).2
  have kB := nb1_k (t := t) (n := n) (r := 7) (i := 1) (s := (qA t n 7 pos).2)
  rw [show nb1 t n 7 1 (qA t n 7 pos).2 = qB t n 7 pos from rfl] at bB kB
  rw [show (gr 7 1).2.1 = 0 from rfl, show (gr 7 1).2.2 = 50 from rfl] at bB
  have eC : qC t n 7 pos = (0, (qB t n 7 pos).2) := rfl
  have bC := nb1_b (t := t) (n := n) T.b (r := 7) (i := 2) (by decide) (by decide) (qB t n 7 pos).2
  have kC := nb1_k (t := t) (n := n) (r := 7) (i := 2) (s := (qB t n 7 pos).2)
  rw [show nb1 t n 7 2 (qB t n 7 pos).2 = qC t n 7 pos from rfl] at bC kC
  rw [show (gr 7 2).2.1 = 0 from rfl, show (gr 7 2).2.2 = 0 from rfl] at bC
  generalize qA t n 7 pos = A at *
  generalize qB t n 7 pos = B at *
  generalize qC t n 7 pos = C at *
  dsimp only at bA
  obtain ⟨h1, a1, a2, a3, a4⟩ := m_digit T (gd := true) (pos := pos) (by omega) M (lo := 0) (hi := 5) (by omega) (by omega) (by omega)
  rw [← eA] at a1 a2
  have T1 : TxM h1 t n := T.fr (a4 12 (by decide) (by decide)) (a3 210 (by decide))
  obtain ⟨h2, b1, b2, b3, b4⟩ := m_two T1 (gd := A.2.1) (pos := A.2.2) (by omega) a2 (lo := 0) (hi := 50) (by omega) (by omega) (by omega)
  rw [show ((A.2.1, A.2.2) : Bool × Nat) = A.2 from rfl] at b1 b2
  rw [← eB] at b1 b2
  have T2 : TxM h2 t n := T1.fr (b4 12 (by decide) (by decide)) (b3 210 (by decide))
  have Fr : FrM h h2 := ⟨fun i i1 _ _ _ _ => by rw [b3 i i1, a3 i i1], fun k k1 k2 _ => by rw [b4 k k1 k2, a4 k k1 k2]⟩
  have Rk : RepM h2 203 z := R.fr (by rw [b3 203 (by decide), a3 203 (by decide)])
  have mk : h2 200 15 = iI lo := by rw [b4 15 (by decide) (by decide), a4 15 (by decide) (by decide)]; exact m3
  have eD : exR 7 A.1 B.1 C.1 z = doE z A.1 B.1 := rfl
  rw [eD] at hN ⊢
  have eC2 : C.2 = B.2 := by rw [eC]
  rw [eC2]
  have fin : ∃ r h', ((f_M_goes h2 200 (iI (boI (decide (setP A.1 B.1))))).bind fun v27 => if v27.1 = 0 then some ((0 : Int32), v27.2) else (f_M_put v27.2 (fld 200 3) ((190 : Int32) + iI A.1) (iI B.1)).bind fun v30 => some (v30.1, v30.2)) = some (r, h') ∧ FinM h h' B.2 lo (doE z A.1 B.1) z := by
    refine m_fin (act := fun hh => f_M_put hh (fld 200 3) ((190 : Int32) + iI A.1) (iI B.1)) b2 mk Rk Fr (fun cg => ?_) hN (fun cg cc hh Rh => ?_)
    · unfold doE
      rw [ite1]
    · have cx := of_decide_eq_true cc
      obtain ⟨h', p1, p2, p3⟩ := m_put Rh (k := 190 + A.1) (by omega) (by omega) B.1
      refine ⟨iI (z (190 + A.1).toNat), h', ?_, ?_, fun i i1 _ _ _ => p3 i i1⟩
      · show f_M_put hh (fld 200 3) ((190 : Int32) + iI A.1) (iI B.1) = _
        rw [lI190, iI_add]
        exact p1
      · unfold doE
        rw [if_pos cx, show 190 + A.1.toNat = (190 + A.1).toNat by omega]
        exact p2
  unfold f_M_readRest
  rw [if_neg (by decide), if_neg (by decide), if_neg (by decide), show f_M_digit h 200 0 5 = _ from a1, Option.bind_some, show f_M_two h1 200 0 50 = _ from b1, Option.bind_some, m_isSet ⟨by omega, by omega⟩ ⟨by omega, by omega⟩, Option.bind_some, ite_bo]
  exact fin
end CMDX
