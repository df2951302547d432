/-! the text's commands: the class -/
def rowL (L : Int) : Nat := if L = 119 then 0 else if L = 111 then 1 else if L = 100 then 2 else if L = 112 then 3 else if L = 108 then 4 else if L = 115 then 5 else if L = 110 then 6 else if L = 101 then 7 else 8
def gr (r i : Nat) : Nat × Int × Int := ([(2, 4, 30), (0, 0, 0), (0, 0, 0), (1, 0, 3), (2, 0, 29), (1, 0, 4), (1, 0, 5), (1, 1, 9), (1, 0, 3), (1, 0, 9), (1, 0, 3), (2, 0, 29), (1, 0, 9), (0, 0, 0), (0, 0, 0), (1, 0, 9), (1, 0, 9), (0, 0, 0), (2, 1, 60), (0, 0, 0), (0, 0, 0), (1, 0, 5), (2, 0, 50), (0, 0, 0)] : List (Nat × Int × Int)).getD (3 * r + i) (0, 0, 0)
def nb1 (t : Nat → Int) (n r i : Nat) (s : Bool × Nat) : Int × Bool × Nat := nbS t n (gr r i).1 (gr r i).2.1 (gr r i).2.2 s
def qA (t : Nat → Int) (n r pos : Nat) : Int × Bool × Nat := nb1 t n r 0 (true, pos)
def qB (t : Nat → Int) (n r pos : Nat) : Int × Bool × Nat := nb1 t n r 1 (qA t n r pos).2
def qC (t : Nat → Int) (n r pos : Nat) : Int × Bool × Nat := nb1 t n r 2 (qB t n r pos).2
def cmS (t : Nat → Int) (n pos : Nat) : Bool × Nat := if rowL (chT t n pos) < 8 then (qC t n (rowL (chT t n pos)) (pos + 1)).2 else (false, pos)
section CMDC
variable {h g : HP} {t : Nat → Int} {n : Nat}
theorem grm_ok {r i : Nat} (hr : r < 8) (hi : i < 3) : okR (gr r i).1 (gr r i).2.1 (gr r i).2.2 := by
  rcases (by omega : r = 0 ∨ r = 1 ∨ r = 2 ∨ r = 3 ∨ r = 4 ∨ r = 5 ∨ r = 6 ∨ r = 7) with rfl | rfl | rfl | rfl | rfl | rfl | rfl | rfl <;> rcases (by omega : i = 0 ∨ i = 1 ∨ i = 2) with rfl | rfl | rfl <;> first | exact Or.inl ⟨rfl, rfl, rfl⟩ | exact Or.inr (Or.inl ⟨rfl, by decide, by decide, by decide⟩) | exact Or.inr (Or.inr ⟨rfl, by decide, by decide, by decide⟩)
theorem gr_s {r i : Nat} (hr : r < 8) (hi : i < 3) : sarr 214 ((3 * r + i) * 3) = iI ((gr r i).1 : Nat) ∧ sarr 214 ((3 * r + i) * 3 + 1) = iI (gr r i).2.1 ∧ sarr 214 ((3 * r + i) * 3 + 2) = iI (gr r i).2.2 := by
  rcases (by omega : r = 0 ∨ r = 1 ∨ r = 2 ∨ r = 3 ∨ r = 4 ∨ r = 5 ∨ r = 6 ∨ r = 7) with rfl | rfl | rfl | rfl | rfl | rfl | rfl | rfl <;> rcases (by omega : i = 0 ∨ i = 1 ∨ i = 2) with rfl | rfl | rfl <;> exact ⟨by decide, by decide, by decide⟩
theorem rowL_lix {L : Int} (h1 : -1 ≤ L) (h2 : L ≤ 255) : lix (iI L) = if rowL L < 8 then iI (rowL L : Nat) else iI (-1) := by
  unfold lix rowL
  rw [show (119 : Int32) = iI 119 by decide, show (111 : Int32) = iI 111 by decide, show (100 : Int32) = iI 100 by decide, show (112 : Int32) = iI 112 by decide, show (108 : Int32) = iI 108 by decide, show (115 : Int32) = iI 115 by decide, show (110 : Int32) = iI 110 by decide, show (101 : Int32) = iI 101 by decide]
  rw [tEq (by omega) (by omega) (by omega) (by omega), tEq (by omega) (by omega) (by omega) (by omega), tEq (by omega) (by omega) (by omega) (by omega), tEq (by omega) (by omega) (by omega) (by omega), tEq (by omega) (by omega) (by omega) (by omega), tEq (by omega) (by omega) (by omega) (by omega), tEq (by omega) (by omega) (by omega) (by omega), tEq (by omega) (by omega) (by omega) (by omega)]
  repeat' split
  all_goals first | rfl | decide | omega
theorem nb1_b (T : ∀ i : Nat, i < n → 0 ≤ t i ∧ t i ≤ 255) {r i : Nat} (hr : r < 8) (hi : i < 3) (s : Bool × Nat) : 0 ≤ (nb1 t n r i s).1 ∧ (nb1 t n r i s).1 ≤ 99 ∧ s.2 ≤ (nb1 t n r i s).2.2 ∧ (nb1 t n r i s).2.2 ≤ s.2 + 2 ∧ ((nb1 t n r i s).2.1 = true → (gr r i).2.1 ≤ (nb1 t n r i s).1 ∧ (nb1 t n r i s).1 ≤ (gr r i).2.2) := nbS_b T (grm_ok hr hi) s
theorem nb1_f (r i : Nat) (s : Bool × Nat) (hs : s.1 = false) : (nb1 t n r i s).2 = s := by
  have e : s = (false, s.2) := by rw [← hs]
  rw [e]
  exact nbS_f _ _ _ _
theorem c_75 (T : TxC h t n) {pos r i : Nat} (hp : pos ≤ 500) (h3 : h 197 3 = iI pos) (hr : r < 8) (hi : i < 3) (fu : Nat) : ∃ h', f_T_readCommand_75 (fu + 1) 197 (iI r) (iI i) h = (if (nb1 t n r i (true, pos)).2.1 = true then f_T_readCommand_75 fu 197 (iI r) (iI ((i + 1 : Nat) : Int)) h' else some (0, h')) ∧ h' 197 3 = iI ((nb1 t n r i (true, pos)).2.2 : Nat) ∧ ((nb1 t n r i (true, pos)).2.1 = true → h' 199 i = iI (nb1 t n r i (true, pos)).1) ∧ (∀ k, k ≠ i → h' 199 k = h 199 k) ∧ (∀ j, j ≠ 197 → j ≠ 199 → h' j = h j) ∧ (∀ k, k ≠ 3 → h' 197 k = h 197 k) := by
  obtain ⟨h1, g1, g2, g3, g4⟩ := c_num T hp h3 (grm_ok hr hi)
  have hb := nb1_b (t := t) (n := n) T.b hr hi (true, pos)
  obtain ⟨s1, s2, s3⟩ := gr_s hr hi
  have ei : (iI (i : Int)).toNatClampNeg = i := by rw [iI_cl (by omega) (by omega)]; omega
  have e1 : (iI (((r : Int) * 3 + i) * 3)).toNatClampNeg = (3 * r + i) * 3 := by rw [iI_cl (by omega) (by omega)]; omega
  have e2 : (iI (((r : Int) * 3 + i) * 3 + 1)).toNatClampNeg = (3 * r + i) * 3 + 1 := by rw [iI_cl (by omega) (by omega)]; omega
  have e3 : (iI (((r : Int) * 3 + i) * 3 + 2)).toNatClampNeg = (3 * r + i) * 3 + 2 := by rw [iI_cl (by omega) (by omega)]; omega
  have g1' : f_T_readNumber h 197 (iI ((gr r i).1 : Nat)) (iI (gr r i).2.1) (iI (gr r i).2.2) = some (iI (if (nb1 t n r i (true, pos)).2.1 = true then (nb1 t n r i (true, pos)).1 else -1), h1) := g1
  have g2' : h1 197 3 = iI ((nb1 t n r i (true, pos)).2.2 : Nat) := g2
  generalize nb1 t n r i (true, pos) = q at *
  refine ⟨hset h1 199 i (iI (if q.2.1 = true then q.1 else -1)), ?_, by rw [hset_n _ _ _ (by decide)]; exact g2', fun c => by rw [hset_s, upd_s, if_pos c], fun k hk => by rw [hset_s, upd_n _ _ hk, g3 199 (by decide)], fun j j1 j2 => by rw [hset_n _ _ _ j2, g3 j j1], fun k hk => by rw [hset_n _ _ _ (by decide), g4 k hk]⟩
  rw [f_T_readCommand_75, lI3, tLe (by omega) (by omega) (by omega) (by omega), if_neg (by omega), iI_mul, iI_add, iI_mul, lI2, iI_add, lI72, tLt (by omega) (by omega) (by omega) (by omega), if_pos (by omega), iI_ib (by omega) (by omega) (by omega), if_pos rfl, lI1, iI_add, iI_ib (by omega) (by omega) (by omega), if_pos rfl, iI_ib (by omega) (by omega) (by omega), if_pos rfl, e1, e2, e3, s1, s2, s3, g1', Option.bind_some]
  dsimp only
  rw [iI_ib (by omega) (by omega) (by omega), if_pos rfl, fT1, ei, Option.bind_some, if_pos rfl, hset_s, upd_s, iI_neg, tEq (by split <;> omega) (by split <;> omega) (by omega) (by omega), iI_add, show (i : Int) + 1 = ((i + 1 : Nat) : Int) by omega]
  by_cases c : q.2.1 = true
  · rw [if_pos c, if_pos c, if_neg (by omega)]
  · rw [if_neg c, if_neg c, if_pos rfl, lI0]
theorem c_cmd (T : TxC h t n) {pos : Nat} (hp : pos ≤ 200) (h3 : h 197 3 = iI pos) : ∃ h', f_T_readCommand h 197 = some (iI (boI (cmS t n pos).1), h') ∧ h' 197 3 = iI ((cmS t n pos).2 : Nat) ∧ ((cmS t n pos).1 = true → h' 197 4 = iI (chT t n pos) ∧ h' 199 0 = iI (qA t n (rowL (chT t n pos)) (pos + 1)).1 ∧ h' 199 1 = iI (qB t n (rowL (chT t n pos)) (pos + 1)).1 ∧ h' 199 2 = iI (qC t n (rowL (chT t n pos)) (pos + 1)).1) ∧ (∀ j, j ≠ 197 → j ≠ 199 → h' j = h j) ∧ (∀ k, k ≠ 3 → k ≠ 4 → h' 197 k = h 197 k) := by
  obtain ⟨t1, t2, t4⟩ := id T
  have hc := ch_b T.b pos
  have hx := rowL_lix hc.1 hc.2
  have bad : cmS t n pos = (false, pos) → f_T_readCommand h 197 = some (0, h) → ∃ h', f_T_readCommand h 197 = some (iI (boI (cmS t n pos).1), h') ∧ h' 197 3 = iI ((cmS t n pos).2 : Nat) ∧ ((cmS t n pos).1 = true → h' 197 4 = iI (chT t n pos) ∧ h' 199 0 = iI (qA t n (rowL (chT t n pos)) (pos + 1)).1 ∧ h' 199 1 = iI (qB t n (rowL (chT t n pos)) (pos + 1)).1 ∧ h' 199 2 = iI (qC t n (rowL (chT t n pos)) (pos + 1)).1) ∧ (∀ j, j ≠ 197 → j ≠ 199 → h' j = h j) ∧ (∀ k, k ≠ 3 → k ≠ 4 → h' 197 k = h 197 k) := fun e1 e2 => by
    refine ⟨h, ?_, by rw [e1]; exact h3, fun q => ?_, fun _ _ _ => rfl, fun _ _ _ => rfl⟩
    · rw [e1, e2]; rfl
    · rw [e1] at q; exact absurd (show false = true from q) (by decide)
  by_cases c : pos < n
  · have ec : chT t n pos = t pos := if_pos c
    have e1 : (iI (pos : Int)).toNatClampNeg = pos := by rw [iI_cl (by omega) (by omega)]; omega
    have eh : h (fld 197 0) (h 197 3).toNatClampNeg = iI (chT t n pos) := by rw [h3, e1, fT0, (t4 pos c).2, ec]
    by_cases cr : rowL (chT t n pos) < 8
    · rw [if_pos cr] at hx
      have T2 : TxC (hset (hset h 197 4 (iI (chT t n pos))) 197 3 (iI ((pos : Int) + 1))) t n := T.fr (by rw [hset_s, upd_n _ _ (by decide), hset_s, upd_n _ _ (by decide)]) (by rw [hset_n _ _ _ (by decide), hset_n _ _ _ (by decide)])
      have h32 : (hset (hset h 197 4 (iI (chT t n pos))) 197 3 (iI ((pos : Int) + 1))) 197 3 = iI ((pos + 1 : Nat) : Int) := by rw [hset_s, upd_s]; rfl
      have h42 : (hset (hset h 197 4 (iI (chT t n pos))) 197 3 (iI ((pos : Int) + 1))) 197 4 = iI (chT t n pos) := by rw [hset_s, upd_n _ _ (by decide), hset_s, upd_s]
      have fr2 : ∀ j, j ≠ 197 → (hset (hset h 197 4 (iI (chT t n pos))) 197 3 (iI ((pos : Int) + 1))) j = h j := fun j hj => by rw [hset_n _ _ _ hj, hset_n _ _ _ hj]
      have fk2 : ∀ k, k ≠ 3 → k ≠ 4 → (hset (hset h 197 4 (iI (chT t n pos))) 197 3 (iI ((pos : Int) + 1))) 197 k = h 197 k := fun k k1 k2 => by rw [hset_s, upd_n _ _ k1, hset_s, upd_n _ _ k2]
      have st : f_T_readCommand h 197 = f_T_readCommand_75 4096 197 (iI (rowL (chT t n pos) : Nat)) (iI ((0 : Nat) : Int)) (hset (hset h 197 4 (iI (chT t n pos))) 197 3 (iI ((pos : Int) + 1))) := by
        have e3 : (hset h 197 4 (iI (chT t n pos))) 197 3 = iI pos := by rw [hset_s, upd_n _ _ (by decide)]; exact h3
        unfold f_T_readCommand
        rw [eh, hx, h3, t2, lI0, tLt (by omega) (by omega) (by omega) (by omega), if_neg (by omega), tLe (by omega) (by omega) (by omega) (by omega), if_neg (by omega), lI120, tLt (by omega) (by omega) (by omega) (by omega), if_pos (by omega), iI_ib (by omega) (by omega) (by omega), if_pos rfl, tLe (by omega) (by omega) (by omega) (by omega), if_pos (by omega), if_pos rfl, Option.bind_some, e3, lI1, iI_add, Option.bind_some]
        rfl
      rw [st]
      generalize hset (hset h 197 4 (iI (chT t n pos))) 197 3 (iI ((pos : Int) + 1)) = h2 at *
      have eS : cmS t n pos = (qC t n (rowL (chT t n pos)) (pos + 1)).2 := if_pos cr
      rw [eS]
      generalize hR : rowL (chT t n pos) = r at *
      have bA := nb1_b (t := t) (n := n) T.b cr (i := 0) (by decide) (true, pos + 1)
      obtain ⟨ha, a1, a2, a3, a4, a5, a6⟩ := c_75 T2 (r := r) (i := 0) (by omega) h32 cr (by decide) 4095
      rw [a1]
      have eA : nb1 t n r 0 (true, pos + 1) = qA t n r (pos + 1) := rfl
      rw [eA] at a2 a3 bA ⊢
      by_cases cA : (qA t n r (pos + 1)).2.1 = true
      · rw [if_pos cA]
        have eAt : (qA t n r (pos + 1)).2 = (true, (qA t n r (pos + 1)).2.2) := by rw [← cA]
        have TA : TxC ha t n := T2.fr (a6 2 (by decide)) (a5 198 (by decide) (by decide))
        have bB := nb1_b (t := t) (n := n) T.b cr (i := 1) (by decide) (qA t n r (pos + 1)).2
        obtain ⟨hb, b1, b2, b3, b4, b5, b6⟩ := c_75 TA (r := r) (i := 1) (pos := (qA t n r (pos + 1)).2.2) (by omega) a2 cr (by decide) 4094
        rw [b1]
        have eB : nb1 t n r 1 (true, (qA t n r (pos + 1)).2.2) = qB t n r (pos + 1) := by unfold qB; rw [← eAt]
        have eB2 : nb1 t n r 1 (qA t n r (pos + 1)).2 = qB t n r (pos + 1) := rfl
        rw [eB] at b2 b3 ⊢
        rw [eB2] at bB
        by_cases cB : (qB t n r (pos + 1)).2.1 = true
        · rw [if_pos cB]
          have eBt : (qB t n r (pos + 1)).2 = (true, (qB t n r (pos + 1)).2.2) := by rw [← cB]
          have TB' : TxC hb t n := TA.fr (b6 2 (by decide)) (b5 198 (by decide) (by decide))
          obtain ⟨hc', c1, c2, c3, c4, c5, c6⟩ := c_75 TB' (r := r) (i := 2) (pos := (qB t n r (pos + 1)).2.2) (by omega) b2 cr (by decide) 4093
          rw [c1]
          have eC : nb1 t n r 2 (true, (qB t n r (pos + 1)).2.2) = qC t n r (pos + 1) := by unfold qC; rw [← eBt]
          rw [eC] at c2 c3 ⊢
          have frj : ∀ j, j ≠ 197 → j ≠ 199 → hc' j = h j := fun j j1 j2 => by rw [c5 j j1 j2, b5 j j1 j2, a5 j j1 j2, fr2 j j1]
          have frk : ∀ k, k ≠ 3 → k ≠ 4 → hc' 197 k = h 197 k := fun k k1 k2 => by rw [c6 k k1, b6 k k1, a6 k k1, fk2 k k1 k2]
          by_cases cC : (qC t n r (pos + 1)).2.1 = true
          · rw [if_pos cC, cC, f_T_readCommand_75, lI3, if_pos (by decide)]
            exact ⟨hc', by rw [lI1]; rfl, c2, fun _ => ⟨by rw [c6 4 (by decide), b6 4 (by decide), a6 4 (by decide)]; exact h42, by rw [c4 0 (by decide), b4 0 (by decide)]; exact a3 cA, by rw [c4 1 (by decide)]; exact b3 cB, c3 cC⟩, frj, frk⟩
          · rw [if_neg cC]
            refine ⟨hc', ?_, c2, fun q => absurd q cC, frj, frk⟩
            unfold boI
            rw [if_neg cC, lI0]
        · have cB' : (qB t n r (pos + 1)).2.1 = false := by cases q : (qB t n r (pos + 1)).2.1 with | false => rfl | true => exact absurd q cB
          have e3 : (qC t n r (pos + 1)).2 = (qB t n r (pos + 1)).2 := nb1_f _ _ _ cB'
          rw [if_neg cB, e3]
          refine ⟨hb, ?_, b2, fun q => absurd q cB, fun j j1 j2 => by rw [b5 j j1 j2, a5 j j1 j2, fr2 j j1], fun k k1 k2 => by rw [b6 k k1, a6 k k1, fk2 k k1 k2]⟩
          unfold boI
          rw [if_neg cB, lI0]
      · have cA' : (qA t n r (pos + 1)).2.1 = false := by cases q : (qA t n r (pos + 1)).2.1 with | false => rfl | true => exact absurd q cA
        have e2 : (qB t n r (pos + 1)).2 = (qA t n r (pos + 1)).2 := nb1_f _ _ _ cA'
        have e3 : (qC t n r (pos + 1)).2 = (qB t n r (pos + 1)).2 := nb1_f _ _ _ (by rw [e2]; exact cA')
        rw [if_neg cA, e3, e2]
        refine ⟨ha, ?_, a2, fun q => absurd q cA, fun j j1 j2 => by rw [a5 j j1 j2, fr2 j j1], fun k k1 k2 => by rw [a6 k k1, fk2 k k1 k2]⟩
        unfold boI
        rw [if_neg cA, lI0]
    · rw [if_neg cr] at hx
      refine bad (if_neg cr) ?_
      unfold f_T_readCommand
      rw [eh, hx, h3, t2, lI0, tLt (by omega) (by omega) (by omega) (by omega), if_neg (by omega), tLe (by omega) (by omega) (by omega) (by omega), if_neg (by omega), lI120, tLt (by omega) (by omega) (by omega) (by omega), if_pos (by omega), iI_ib (by omega) (by omega) (by omega), if_pos rfl, tLe (by omega) (by omega) (by omega) (by omega), if_neg (by omega)]
  · have ec : chT t n pos = -1 := if_neg c
    refine bad (if_neg (by rw [ec]; decide)) ?_
    unfold f_T_readCommand
    rw [h3, t2, lI0, tLt (by omega) (by omega) (by omega) (by omega), if_neg (by omega), tLe (by omega) (by omega) (by omega) (by omega), if_pos (by omega)]
end CMDC
