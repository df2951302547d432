/-! a text of commands, read from its front -/
def TS (t : Nat → Int) (n pos : Nat) (L : List Int) : Prop := n = pos + L.length ∧ ∀ i : Nat, i < L.length → t (pos + i) = L.getD i 0
theorem TS.hd {t : Nat → Int} {n pos : Nat} {c : Int} {L : List Int} (T : TS t n pos (c :: L)) : chT t n pos = c ∧ TS t n (pos + 1) L ∧ pos < n := by
  obtain ⟨h1, h2⟩ := T
  have h1 : n = pos + (L.length + 1) := h1
  refine ⟨?_, ⟨by omega, fun i hi => ?_⟩, by omega⟩
  · unfold chT
    rw [if_pos (by omega)]
    exact h2 0 (Nat.succ_pos _)
  · have := h2 (i + 1) (Nat.succ_lt_succ hi)
    rw [show pos + 1 + i = pos + (i + 1) by omega, this]
    rfl
theorem TS.add {t : Nat → Int} {n : Nat} {L : List Int} (T : TS t n 0 L) (x : Int) : TS (uI t n x) (n + 1) 0 (L ++ [x]) := by
  obtain ⟨h1, h2⟩ := T
  rw [Nat.zero_add] at h1
  refine ⟨by rw [List.length_append, Nat.zero_add]; exact congrArg (· + 1) h1, fun i hi => ?_⟩
  rw [List.length_append] at hi
  have hi : i < L.length + 1 := hi
  rw [Nat.zero_add]
  by_cases c : i = n
  · subst c
    rw [uI_s, h1, List.getD_eq_getElem?_getD, List.getElem?_append_right (Nat.le_refl _), Nat.sub_self]
    rfl
  · rw [uI_n _ _ c, List.getD_eq_getElem?_getD, List.getElem?_append_left (by omega), ← List.getD_eq_getElem?_getD]
    have := h2 i (by omega)
    rw [Nat.zero_add] at this
    exact this
def GL (m : Nat) (L : List Int) : Prop := ∀ (t : Nat → Int) (n pos : Nat) (lo : Int) (z : Nat → Int), TS t n pos L → (prs t n m pos lo z).1 = -1
theorem GL.nil (m : Nat) : GL m [] := by
  intro t n pos lo z T
  have h1 : n = pos + 0 := T.1
  cases m with
  | zero => rfl
  | succ m =>
    rw [prs_s, if_pos (by omega)]
theorem GL.step {m k : Nat} {c : Int} {L L' : List Int} (hs : ∀ (t : Nat → Int) (n pos : Nat), TS t n pos (c :: L) → cmS t n pos = (true, pos + k) ∧ TS t n (pos + k) L') (g : GL m L') : GL (m + 1) (c :: L) := by
  intro t n pos lo z T
  obtain ⟨e1, e2⟩ := hs t n pos T
  have hp := T.hd.2.2
  rw [prs_s, if_neg (by omega), e1, if_pos rfl]
  exact g t n (pos + k) _ _ e2
theorem dg_ok {t : Nat → Int} {n pos : Nat} {c lo hi : Int} {L : List Int} (T : TS t n pos (c :: L)) (h1 : lo ≤ c - 48) (h2 : c - 48 ≤ hi) : dgS t n lo hi (true, pos) = (c - 48, true, pos + 1) := by
  have e := T.hd.1
  unfold dgS
  rw [e, if_pos ⟨rfl, h1, h2⟩]
theorem tw_ok {t : Nat → Int} {n pos : Nat} {c d lo hi : Int} {L : List Int} (T : TS t n pos (c :: d :: L)) (h1 : lo / 10 ≤ c - 48) (h2 : c - 48 ≤ hi / 10) (h3 : (if c - 48 = lo / 10 then lo % 10 else 0) ≤ d - 48) (h4 : d - 48 ≤ (if c - 48 = hi / 10 then hi % 10 else 9)) : (twS t n lo hi (true, pos)).2 = (true, pos + 2) := by
  have e := dg_ok T h1 h2
  unfold twS tw2
  rw [e]
  show (dgS t n (if c - 48 = lo / 10 then lo % 10 else 0) (if c - 48 = hi / 10 then hi % 10 else 9) (true, pos + 1)).2 = _
  rw [dg_ok T.hd.2.1 h3 h4]
section COMMANDS
variable {m : Nat} {L : List Int} {a b c d : Int}
theorem cm_of {t : Nat → Int} {n pos r : Nat} {l : Int} {L : List Int} (T : TS t n pos (l :: L)) (hr : rowL l = r) (h8 : r < 8) {q : Nat} (e : (qC t n r (pos + 1)).2 = (true, q)) : cmS t n pos = (true, q) := by
  unfold cmS
  rw [T.hd.1, hr, if_pos h8, e]
theorem gl_w (h : (a = 49 ∧ 48 ≤ b ∧ 4 ≤ 10 * (a - 48) + (b - 48) ∧ b ≤ 57) ∨ (a = 50 ∧ 48 ≤ b ∧ b ≤ 57)) (g : GL m L) : GL (m + 1) (119 :: a :: b :: L) := by
  refine GL.step (k := 3) (fun t n pos T => ?_) g
  have T1 := T.hd.2.1
  refine ⟨cm_of T (r := 0) rfl (by decide) ?_, T1.hd.2.1.hd.2.1⟩
  have e : (qA t n 0 (pos + 1)).2 = (true, pos + 1 + 2) := by
    show (twS t n 4 30 (true, pos + 1)).2 = _
    rcases h with ⟨h1, h2, h3, h4⟩ | ⟨h1, h2, h3⟩
    · subst h1
      exact tw_ok T1 (by decide) (by decide) (by show (0 : Int) ≤ b - 48; omega) (by show b - 48 ≤ 9; omega)
    · subst h1
      exact tw_ok T1 (by decide) (by decide) (by show (0 : Int) ≤ b - 48; omega) (by show b - 48 ≤ 9; omega)
  show (qA t n 0 (pos + 1)).2 = (true, pos + 3)
  rw [e]
theorem gl_o (ha : 48 ≤ a ∧ a ≤ 51) (hb : b = 48 ∧ 48 ≤ c ∧ c ≤ 57) (hd : 48 ≤ d ∧ d ≤ 52) (g : GL m L) : GL (m + 1) (111 :: a :: b :: c :: d :: L) := by
  refine GL.step (k := 5) (fun t n pos T => ?_) g
  have T1 := T.hd.2.1
  have T2 := T1.hd.2.1
  have T4 := T2.hd.2.1.hd.2.1
  refine ⟨cm_of T (r := 1) rfl (by decide) ?_, T4.hd.2.1⟩
  have eA : (qA t n 1 (pos + 1)).2 = (true, pos + 2) := by
    show (dgS t n 0 3 (true, pos + 1)).2 = _
    rw [dg_ok T1 (by omega) (by omega)]
  have eB : (qB t n 1 (pos + 1)).2 = (true, pos + 4) := by
    show (twS t n 0 29 (qA t n 1 (pos + 1)).2).2 = _
    rw [eA]
    obtain ⟨hb, hc⟩ := hb
    subst hb
    exact tw_ok T2 (by decide) (by decide) (by show (0 : Int) ≤ c - 48; omega) (by show c - 48 ≤ 9; omega)
  show (dgS t n 0 4 (qB t n 1 (pos + 1)).2).2 = _
  rw [eB, dg_ok T4 (by omega) (by omega)]
theorem gl_d (ha : 48 ≤ a ∧ a ≤ 53) (hb : 49 ≤ b ∧ b ≤ 57) (hc : 48 ≤ c ∧ c ≤ 51) (g : GL m L) : GL (m + 1) (100 :: a :: b :: c :: L) := by
  refine GL.step (k := 4) (fun t n pos T => ?_) g
  have T1 := T.hd.2.1
  have T2 := T1.hd.2.1
  have T3 := T2.hd.2.1
  refine ⟨cm_of T (r := 2) rfl (by decide) ?_, T3.hd.2.1⟩
  have eA : (qA t n 2 (pos + 1)).2 = (true, pos + 2) := by
    show (dgS t n 0 5 (true, pos + 1)).2 = _
    rw [dg_ok T1 (by omega) (by omega)]
  have eB : (qB t n 2 (pos + 1)).2 = (true, pos + 3) := by
    show (dgS t n 1 9 (qA t n 2 (pos + 1)).2).2 = _
    rw [eA, dg_ok T2 (by omega) (by omega)]
  show (dgS t n 0 3 (qB t n 2 (pos + 1)).2).2 = _
  rw [eB, dg_ok T3 (by omega) (by omega)]
theorem gl_p (ha : 48 ≤ a ∧ a ≤ 57) (hb : 48 ≤ b ∧ b ≤ 51) (hc : 48 ≤ c ∧ c ≤ 49) (hd : 48 ≤ d ∧ d ≤ 57) (g : GL m L) : GL (m + 1) (112 :: a :: b :: c :: d :: L) := by
  refine GL.step (k := 5) (fun t n pos T => ?_) g
  have T1 := T.hd.2.1
  have T2 := T1.hd.2.1
  have T3 := T2.hd.2.1
  have T4 := T3.hd.2.1
  refine ⟨cm_of T (r := 3) rfl (by decide) ?_, T4.hd.2.1⟩
  have eA : (qA t n 3 (pos + 1)).2 = (true, pos + 2) := by
    show (dgS t n 0 9 (true, pos + 1)).2 = _
    rw [dg_ok T1 (by omega) (by omega)]
  have eB : (qB t n 3 (pos + 1)).2 = (true, pos + 3) := by
    show (dgS t n 0 3 (qA t n 3 (pos + 1)).2).2 = _
    rw [eA, dg_ok T2 (by omega) (by omega)]
  show (twS t n 0 29 (qB t n 3 (pos + 1)).2).2 = _
  rw [eB]
  rcases (by omega : c = 48 ∨ c = 49) with h | h
  · subst h
    exact tw_ok T3 (by decide) (by decide) (by show (0 : Int) ≤ d - 48; omega) (by show d - 48 ≤ 9; omega)
  · subst h
    exact tw_ok T3 (by decide) (by decide) (by show (0 : Int) ≤ d - 48; omega) (by show d - 48 ≤ 9; omega)
theorem gl_l (ha : 48 ≤ a ∧ a ≤ 57) (g : GL m L) : GL (m + 1) (108 :: a :: L) := by
  refine GL.step (k := 2) (fun t n pos T => ?_) g
  have T1 := T.hd.2.1
  refine ⟨cm_of T (r := 4) rfl (by decide) ?_, T1.hd.2.1⟩
  show (dgS t n 0 9 (true, pos + 1)).2 = _
  rw [dg_ok T1 (by omega) (by omega)]
theorem gl_s (ha : 48 ≤ a ∧ a ≤ 57) (hb : 48 ≤ b ∧ b ≤ 57) (g : GL m L) : GL (m + 1) (115 :: a :: b :: L) := by
  refine GL.step (k := 3) (fun t n pos T => ?_) g
  have T1 := T.hd.2.1
  have T2 := T1.hd.2.1
  refine ⟨cm_of T (r := 5) rfl (by decide) ?_, T2.hd.2.1⟩
  have eA : (qA t n 5 (pos + 1)).2 = (true, pos + 2) := by
    show (dgS t n 0 9 (true, pos + 1)).2 = _
    rw [dg_ok T1 (by omega) (by omega)]
  show (dgS t n 0 9 (qA t n 5 (pos + 1)).2).2 = _
  rw [eA, dg_ok T2 (by omega) (by omega)]
theorem gl_n (hb : 49 ≤ b ∧ b ≤ 57) (g : GL m L) : GL (m + 1) (110 :: 48 :: b :: L) := by
  refine GL.step (k := 3) (fun t n pos T => ?_) g
  have T1 := T.hd.2.1
  refine ⟨cm_of T (r := 6) rfl (by decide) ?_, T1.hd.2.1.hd.2.1⟩
  show (twS t n 1 60 (true, pos + 1)).2 = _
  exact tw_ok T1 (by decide) (by decide) (by show (1 : Int) ≤ b - 48; omega) (by show b - 48 ≤ 9; omega)
theorem gl_e (ha : 48 ≤ a ∧ a ≤ 53) (hb : 48 ≤ b ∧ b ≤ 57) (g : GL m L) : GL (m + 1) (101 :: a :: 48 :: b :: L) := by
  refine GL.step (k := 4) (fun t n pos T => ?_) g
  have T1 := T.hd.2.1
  have T2 := T1.hd.2.1
  refine ⟨cm_of T (r := 7) rfl (by decide) ?_, T2.hd.2.1.hd.2.1⟩
  have eA : (qA t n 7 (pos + 1)).2 = (true, pos + 2) := by
    show (dgS t n 0 5 (true, pos + 1)).2 = _
    rw [dg_ok T1 (by omega) (by omega)]
  show (twS t n 0 50 (qA t n 7 (pos + 1)).2).2 = _
  rw [eA]
  exact tw_ok T2 (by decide) (by decide) (by show (0 : Int) ≤ b - 48; omega) (by show b - 48 ≤ 9; omega)
end COMMANDS
theorem err_ok {t : Nat → Int} {n : Nat} {L : List Int} (T : TS t n 0 (65 :: L)) (g : GL 120 L) : errZ t n = -1 := by
  have h1 : n = 0 + (L.length + 1) := T.1
  have e : t 0 = 65 := T.2 0 (Nat.succ_pos _)
  unfold errZ
  rw [if_neg (by omega), if_pos e]
  exact g t n 1 0 zini T.hd.2.1
