/-! the text's commands: dispatch, on both sides -/
section DISP
variable {h g : HP} {t z : Nat → Int} {n : Nat} {B : Int}
noncomputable def cmX (t : Nat → Int) (n pos : Nat) (z : Nat → Int) : Rw := exR (rowL (chT t n pos)) (qA t n (rowL (chT t n pos)) (pos + 1)).1 (qB t n (rowL (chT t n pos)) (pos + 1)).1 (qC t n (rowL (chT t n pos)) (pos + 1)).1 z
theorem qs_b (T : ∀ i : Nat, i < n → 0 ≤ t i ∧ t i ≤ 255) {r : Nat} (hr : r < 8) (pos : Nat) : (0 ≤ (qA t n r pos).1 ∧ (qA t n r pos).1 ≤ 99) ∧ (0 ≤ (qB t n r pos).1 ∧ (qB t n r pos).1 ≤ 99) ∧ (0 ≤ (qC t n r pos).1 ∧ (qC t n r pos).1 ≤ 99) ∧ pos ≤ (qC t n r pos).2.2 := by
  have a := nb1_b (t := t) (n := n) T (r := r) (i := 0) hr (by decide) (true, pos)
  have b := nb1_b (t := t) (n := n) T (r := r) (i := 1) hr (by decide) (qA t n r pos).2
  have c := nb1_b (t := t) (n := n) T (r := r) (i := 2) hr (by decide) (qB t n r pos).2
  rw [show nb1 t n r 0 (true, pos) = qA t n r pos from rfl] at a
  rw [show nb1 t n r 1 (qA t n r pos).2 = qB t n r pos from rfl] at b
  rw [show nb1 t n r 2 (qB t n r pos).2 = qC t n r pos from rfl] at c
  dsimp only at a
  exact ⟨⟨a.1, a.2.1⟩, ⟨b.1, b.2.1⟩, ⟨c.1, c.2.1⟩, by omega⟩
theorem cmS_b (T : ∀ i : Nat, i < n → 0 ≤ t i ∧ t i ≤ 255) (pos : Nat) (c : (cmS t n pos).1 = true) : rowL (chT t n pos) < 8 ∧ pos + 1 ≤ (cmS t n pos).2 := by
  unfold cmS at c ⊢
  by_cases q : rowL (chT t n pos) < 8
  · rw [if_pos q]
    exact ⟨q, (qs_b T q (pos + 1)).2.2.2⟩
  · rw [if_neg q] at c
    exact absurd (show false = true from c) (by decide)
theorem cmX_ok (K : OKz B z) (pos : Nat) : OKz (B + 42000) (cmX t n pos z).2 := exR_ok K _ _ _ _
/-- the class's doing of a command -/
theorem c_obey (RA : RepA h 182 0 184 z) (K : OKz B z) (hB : B < 2147483648) {r : Nat} (hr : r < 8) {L a b c : Int} (hL : rowL L = r) (h1 : -1 ≤ L ∧ L ≤ 255) (ha : 0 ≤ a ∧ a ≤ 99) (hb : 0 ≤ b ∧ b ≤ 99) (hc : 0 ≤ c ∧ c ≤ 99) (e4 : h 197 4 = iI L) (e0 : h 199 0 = iI a) (e1 : h 199 1 = iI b) (e2 : h 199 2 = iI c) : ∃ h', f_C_obeyCommand h 182 197 = some (if (exR r a b c z).1 = true then 1 else 0, h') ∧ RepA h' 182 0 184 (exR r a b c z).2 ∧ (∀ i, ¬ own 0 184 i → h' i = h i) ∧ h' 0 13 = h 0 13 := by
  have nu : ∀ (k : Nat) (v : Int32), k < 3 → v = iI (k : Int) → f_T_number h 197 v = some (h 199 k) := fun k v hk ev => by
    have ek : (iI (k : Int)).toNatClampNeg = k := by rw [iI_cl (by omega) (by omega)]; omega
    have rr := in32 h (v := (k : Int)) ⟨by omega, by omega⟩ ⟨by decide, by decide⟩ ⟨by decide, by decide⟩ lI0 lI2
    rw [if_pos (by omega)] at rr
    unfold f_T_number
    rw [ev, rr, Option.bind_some, if_neg (by decide), iI_ib (by omega) (by omega) (by omega), if_pos rfl, fT1, ek]
  have hLv : L = 119 ∧ r = 0 ∨ L = 111 ∧ r = 1 ∨ L = 100 ∧ r = 2 ∨ L = 112 ∧ r = 3 ∨ L = 108 ∧ r = 4 ∨ L = 115 ∧ r = 5 ∨ L = 110 ∧ r = 6 ∨ L = 101 ∧ r = 7 := by
    unfold rowL at hL
    repeat' split at hL
    all_goals omega
  unfold f_C_obeyCommand
  rw [nu 0 0 (by decide) (by decide), nu 1 1 (by decide) (by decide), nu 2 2 (by decide) (by decide), e0, e1, e2, Option.bind_some, Option.bind_some, Option.bind_some, f_T_letter, e4, Option.bind_some]
  rcases hLv with ⟨rfl, rfl⟩ | ⟨rfl, rfl⟩ | ⟨rfl, rfl⟩ | ⟨rfl, rfl⟩ | ⟨rfl, rfl⟩ | ⟨rfl, rfl⟩ | ⟨rfl, rfl⟩ | ⟨rfl, rfl⟩
  · rw [if_neg (by decide), if_neg (by decide), if_neg (by decide), if_neg (by decide), if_neg (by decide), if_neg (by decide), if_neg (by decide), if_neg (by decide), if_neg (by decide), if_neg (by decide), if_neg (by decide), if_neg (by decide), if_neg (by decide), if_neg (by decide), if_neg (by decide), if_neg (by decide), if_neg (by decide), if_neg (by decide), if_neg (by decide), if_pos (by decide)]
    exact (c_wall RA ⟨by omega, by omega⟩).t1
  · rw [if_neg (by decide), if_neg (by decide), if_neg (by decide), if_neg (by decide), if_neg (by decide), if_neg (by decide), if_neg (by decide), if_neg (by decide), if_neg (by decide), if_neg (by decide), if_neg (by decide), if_pos (by decide)]
    exact (c_outlet RA ⟨by omega, by omega⟩ ⟨by omega, by omega⟩ ⟨by omega, by omega⟩).t1
  · rw [if_pos (by decide)]
    exact (c_dealer RA K.2.1 ⟨by omega, by omega⟩ ⟨by omega, by omega⟩ ⟨by omega, by omega⟩).t1
  · rw [if_neg (by decide), if_neg (by decide), if_neg (by decide), if_neg (by decide), if_neg (by decide), if_neg (by decide), if_neg (by decide), if_neg (by decide), if_neg (by decide), if_neg (by decide), if_neg (by decide), if_neg (by decide), if_pos (by decide)]
    exact (c_place RA 0 ⟨by omega, by omega⟩ ⟨by omega, by omega⟩ ⟨by omega, by omega⟩).t0
  · rw [if_neg (by decide), if_neg (by decide), if_neg (by decide), if_neg (by decide), if_neg (by decide), if_neg (by decide), if_neg (by decide), if_neg (by decide), if_pos (by decide)]
    exact (c_leave RA K.2.1 hB ⟨by omega, by omega⟩).t1
  · rw [if_neg (by decide), if_neg (by decide), if_neg (by decide), if_neg (by decide), if_neg (by decide), if_neg (by decide), if_neg (by decide), if_neg (by decide), if_neg (by decide), if_neg (by decide), if_neg (by decide), if_neg (by decide), if_neg (by decide), if_neg (by decide), if_neg (by decide), if_pos (by decide)]
    exact (c_swap RA 0 ⟨by omega, by omega⟩ ⟨by omega, by omega⟩).t0
  · rw [if_neg (by decide), if_neg (by decide), if_neg (by decide), if_neg (by decide), if_neg (by decide), if_neg (by decide), if_neg (by decide), if_neg (by decide), if_neg (by decide), if_neg (by decide), if_pos (by decide)]
    exact (c_days RA ⟨by omega, by omega⟩).t1
  · rw [if_neg (by decide), if_pos (by decide)]
    exact (c_set RA ⟨by omega, by omega⟩ ⟨by omega, by omega⟩).t1
theorem m_cmd (T : TxM h t n) {pos : Nat} (hp : pos ≤ 200) (M : MSt h true pos) {lo : Int} (m3 : h 200 15 = iI lo) (R : RepM h 203 z) (K : OKz B z) (hB : B < 2147483648) : ∃ v h', f_M_readCommand h 200 = some (v, h') ∧ FinM h h' (cmS t n pos) lo (cmX t n pos z) z := by
  have hc := ch_b T.b pos
  have hx := hc
  unfold f_M_readCommand
  rw [m_here T (by omega) M.1, Option.bind_some, show (119 : Int32) = iI 119 by decide, show (111 : Int32) = iI 111 by decide, show (100 : Int32) = iI 100 by decide, show (112 : Int32) = iI 112 by decide, show (108 : Int32) = iI 108 by decide, show (115 : Int32) = iI 115 by decide, show (110 : Int32) = iI 110 by decide, show (101 : Int32) = iI 101 by decide, tEq (by omega) (by omega) (by omega) (by omega), tEq (by omega) (by omega) (by omega) (by omega), tEq (by omega) (by omega) (by omega) (by omega), tEq (by omega) (by omega) (by omega) (by omega), tEq (by omega) (by omega) (by omega) (by omega), tEq (by omega) (by omega) (by omega) (by omega), tEq (by omega) (by omega) (by omega) (by omega), tEq (by omega) (by omega) (by omega) (by omega)]
  unfold f_M_readCommand_54
  have good : ∀ r, rowL (chT t n pos) = r → r < 8 → (∀ h1, TxM h1 t n → MSt h1 true (pos + 1) → h1 200 15 = iI lo → RepM h1 203 z → ∃ v h', (if iI (chT t n pos) = 100 then (f_M_readDealer h1 200).bind fun v5 => some (v5.1, v5.2) else if iI (chT t n pos) = 111 then (f_M_readOutlet h1 200).bind fun v8 => some (v8.1, v8.2) else if iI (chT t n pos) = 112 then (f_M_readPlace h1 200).bind fun v11 => some (v11.1, v11.2) else if iI (chT t n pos) = 115 then (f_M_readSwap h1 200).bind fun v14 => some (v14.1, v14.2) else (f_M_readRest h1 200 (iI (chT t n pos))).bind fun v16 => some (v16.1, v16.2)) = some (v, h') ∧ FinM h1 h' (qC t n r (pos + 1)).2 lo (exR r (qA t n r (pos + 1)).1 (qB t n r (pos + 1)).1 (qC t n r (pos + 1)).1 z) z) → ∃ v h', f_M_readCommand_59 200 (iI (chT t n pos)) 200 1 h = some (v, h') ∧ FinM h h' (cmS t n pos) lo (cmX t n pos z) z := fun r er hr hh => by
    obtain ⟨h1, g1, g2, g3, g4⟩ := m_take (b := true) M
    have f1 : FrM h h1 := ⟨fun i i1 _ _ _ _ => g3 i i1, fun k k1 k2 _ => g4 k k1 k2⟩
    obtain ⟨v, h', q1, q2, q3, q4, q5⟩ := hh h1 (T.tr f1) g2 (by rw [g4 15 (by decide) (by decide)]; exact m3) (R.fr (g3 203 (by decide)))
    have eS : cmS t n pos = (qC t n r (pos + 1)).2 := by unfold cmS; rw [er, if_pos hr]
    have eX : cmX t n pos z = exR r (qA t n r (pos + 1)).1 (qB t n r (pos + 1)).1 (qC t n r (pos + 1)).1 z := by unfold cmX; rw [er]
    rw [eS, eX]
    refine ⟨v, h', ?_, q2, q3, q4, f1.trans q5⟩
    unfold f_M_readCommand_59
    rw [show f_M_take h 200 1 = _ from g1, Option.bind_some, g2.2, show (true && true) = true from rfl, bo0, if_pos rfl]
    exact q1
  by_cases k0 : chT t n pos = 119
  · rw [if_pos k0]
    refine good 0 (by rw [k0]; rfl) (by decide) (fun h1 T1 M1 m1 R1 => ?_)
    obtain ⟨v, h', q1, q2⟩ := m_w T1 (pos := pos + 1) (by omega) M1 m1 R1 K hB
    rw [k0, if_neg (by decide), if_neg (by decide), if_neg (by decide), if_neg (by decide), q1, Option.bind_some]
    exact ⟨v, h', rfl, q2⟩
  rw [if_neg k0]
  by_cases k1 : chT t n pos = 111
  · rw [if_pos k1]
    refine good 1 (by rw [k1]; rfl) (by decide) (fun h1 T1 M1 m1 R1 => ?_)
    obtain ⟨v, h', q1, q2⟩ := m_o T1 (pos := pos + 1) (by omega) M1 m1 R1 K hB
    rw [k1, if_neg (by decide), if_pos (by decide), q1, Option.bind_some]
    exact ⟨v, h', rfl, q2⟩
  rw [if_neg k1]
  by_cases k2 : chT t n pos = 100
  · rw [if_pos k2]
    refine good 2 (by rw [k2]; rfl) (by decide) (fun h1 T1 M1 m1 R1 => ?_)
    obtain ⟨v, h', q1, q2⟩ := m_d T1 (pos := pos + 1) (by omega) M1 m1 R1 K hB
    rw [k2, if_pos (by decide), q1, Option.bind_some]
    exact ⟨v, h', rfl, q2⟩
  rw [if_neg k2]
  by_cases k3 : chT t n pos = 112
  · rw [if_pos k3]
    refine good 3 (by rw [k3]; rfl) (by decide) (fun h1 T1 M1 m1 R1 => ?_)
    obtain ⟨v, h', q1, q2⟩ := m_p T1 (pos := pos + 1) (by omega) M1 m1 R1 K hB
    rw [k3, if_neg (by decide), if_neg (by decide), if_pos (by decide), q1, Option.bind_some]
    exact ⟨v, h', rfl, q2⟩
  rw [if_neg k3]
  by_cases k4 : chT t n pos = 108
  · rw [if_pos k4]
    refine good 4 (by rw [k4]; rfl) (by decide) (fun h1 T1 M1 m1 R1 => ?_)
    obtain ⟨v, h', q1, q2⟩ := m_l T1 (pos := pos + 1) (by omega) M1 m1 R1 K hB
    rw [k4, if_neg (by decide), if_neg (by decide), if_neg (by decide), if_neg (by decide), q1, Option.bind_some]
    exact ⟨v, h', rfl, q2⟩
  rw [if_neg k4]
  by_cases k5 : chT t n pos = 115
  · rw [if_pos k5]
    refine good 5 (by rw [k5]; rfl) (by decide) (fun h1 T1 M1 m1 R1 => ?_)
    obtain ⟨v, h', q1, q2⟩ := m_s T1 (pos := pos + 1) (by omega) M1 m1 R1 K hB
    rw [k5, if_neg (by decide), if_neg (by decide), if_neg (by decide), if_pos (by decide), q1, Option.bind_some]
    exact ⟨v, h', rfl, q2⟩
  rw [if_neg k5]
  by_cases k6 : chT t n pos = 110
  · rw [if_pos k6]
    refine good 6 (by rw [k6]; rfl) (by decide) (fun h1 T1 M1 m1 R1 => ?_)
    obtain ⟨v, h', q1, q2⟩ := m_n T1 (pos := pos + 1) (by omega) M1 m1 R1 K hB
    rw [k6, if_neg (by decide), if_neg (by decide), if_neg (by decide), if_neg (by decide), q1, Option.bind_some]
    exact ⟨v, h', rfl, q2⟩
  rw [if_neg k6]
  by_cases k7 : chT t n pos = 101
  · rw [if_pos k7]
    refine good 7 (by rw [k7]; rfl) (by decide) (fun h1 T1 M1 m1 R1 => ?_)
    obtain ⟨v, h', q1, q2⟩ := m_e T1 (pos := pos + 1) (by omega) M1 m1 R1 K hB
    rw [k7, if_neg (by decide), if_neg (by decide), if_neg (by decide), if_neg (by decide), q1, Option.bind_some]
    exact ⟨v, h', rfl, q2⟩
  rw [if_neg k7]
  have e8 : rowL (chT t n pos) = 8 := by
    unfold rowL
    rw [if_neg k0, if_neg k1, if_neg k2, if_neg k3, if_neg k4, if_neg k5, if_neg k6, if_neg k7]
  have eS : cmS t n pos = (false, pos) := by unfold cmS; rw [e8, if_neg (by decide)]
  obtain ⟨h1, g1, g2, g3, g4⟩ := m_take (b := false) M
  have f1 : FrM h h1 := ⟨fun i i1 _ _ _ _ => g3 i i1, fun k k1 k2 _ => g4 k k1 k2⟩
  rw [eS]
  refine ⟨0, h1, ?_, g2, ?_, ?_, f1⟩
  · unfold f_M_readCommand_59
    rw [show f_M_take h 200 0 = _ from g1, Option.bind_some, g2.2, show (true && false) = false from rfl, bo0, if_neg (by decide)]
  · rw [g4 15 (by decide) (by decide), m3]
    show iI lo = iI (lo + 0)
    rw [Int.add_zero]
  · show RepM h1 203 z
    exact R.fr (g3 203 (by decide))
end DISP
