/-! System.arraycopy out of a static array; Arrays.fill -/
section FILL
variable {l : Launch} {D : va_G} {ad : Nat → Nat} {aC : Nat → ClassId} {R : Room} {QQ : List Frame → Array Value → State → State → Prop} {M M2 : MI} {pc k n idx : Nat} {ls ls' : List (Option Value)} {st st' rest as : List Value} {h h1 : HP}
def f_R_fill (h : HP) (a0 : Nat) (x1 : Int32) : Option HP := some (hrow h a0 (fun j => if j < alen a0 then x1 else h a0 j))
theorem fill_row {h : HP} {a N : Nat} {x : Int32} : ∀ i, i < N → hset (hrow h a (fun j => if j < i then x else h a j)) a i x = hrow h a (fun j => if j < i + 1 then x else h a j) := by
  intro i hi
  funext b
  by_cases hb : b = a
  · subst hb
    rw [hset_eq, hrow_s, hrow_s, hrow_s]
    funext j
    unfold upd
    by_cases hj : j = i
    · subst hj; rw [if_pos rfl, if_pos (Nat.lt_succ_self _)]
    · rw [if_neg hj]
      by_cases h2 : j < i
      · rw [if_pos h2, if_pos (by omega)]
      · rw [if_neg h2, if_neg (by omega)]
  · rw [hset_eq, hrow_n _ _ hb, hrow_n _ _ hb, hrow_n _ _ hb]
theorem fill_0 {h : HP} {a : Nat} {x : Int32} : hrow h a (fun j => if j < 0 then x else h a j) = h := by
  funext b
  by_cases hb : b = a
  · subst hb; rw [hrow_s]; funext j; rw [if_neg (Nat.not_lt_zero _)]
  · rw [hrow_n _ _ hb]
theorem x_fill_loop {h : HP} {a0 N : Nat} {x1 : Int32} (hI : Inj ad) (k0 : knd a0 = 10) (q0 : alen a0 = N) (hN : N < 2 ^ 31) : ∀ (m i : Nat), i + m = N → Go l D ad aC (rmk m_R_fill) (QM D ad aC m_R_fill (.inl none) (hrow h a0 (fun j => if j < N then x1 else h a0 j))) m_R_fill 5 [some (.ref a0), some (.int x1), some (.int (nI i)), some (.int (nI N))] [] (hrow h a0 (fun j => if j < i then x1 else h a0 j)) 0 0 := by
  intro m
  induction m with
  | zero =>
    intro i hi
    have e : i = N := by omega
    subst e
    refine Go.run (pc' := 7) [.iload_n 2, .iload_n 3] (ls' := [some (.ref a0), some (.int x1), some (.int (nI i)), some (.int (nI i))]) (st' := [.int (nI i), .int (nI i)]) (by decide +kernel) rfl rfl ?_
    refine Go.ic_ge (off := 13) (tgt := 20) (by decide +kernel) (by decide) (fun _ => ?_) (fun c => absurd (nI_le (Nat.le_refl i) hN) c)
    exact Go.vret rfl (by decide) (by decide) (by decide +kernel)
  | succ m ih =>
    intro i hi
    have hlt : i < N := by omega
    refine Go.run (pc' := 7) [.iload_n 2, .iload_n 3] (ls' := [some (.ref a0), some (.int x1), some (.int (nI i)), some (.int (nI N))]) (st' := [.int (nI N), .int (nI i)]) (by decide +kernel) rfl rfl ?_
    refine Go.ic_ge (off := 13) (tgt := 20) (by decide +kernel) (by decide) (fun c => absurd c (nI_ge hlt hN)) (fun _ => ?_)
    refine Go.run (pc' := 13) [.aload_n 0, .iload_n 2, .iload_n 1] (ls' := [some (.ref a0), some (.int x1), some (.int (nI i)), some (.int (nI N))]) (st' := [.int x1, .int (nI i), .ref a0]) (by decide +kernel) rfl rfl ?_
    have hb : ib (nI i) N = true := by
      unfold ib
      rw [nI_clamp (by omega)]
      simp only [Bool.and_eq_true, Bool.not_eq_true', decide_eq_false_iff_not, Nat.blt_eq]
      exact ⟨nI_pos (by omega), hlt⟩
    refine Go.iast hI k0 q0 hb (by decide +kernel) ?_
    rw [nI_clamp (by omega), fill_row i hlt]
    refine Go.run (pc' := 17) [.iinc 2 1] (ls' := [some (.ref a0), some (.int x1), some (.int (nI (i + 1))), some (.int (nI N))]) (st' := []) (by decide +kernel) (by rw [nI_succ]; rfl) rfl ?_
    refine Go.goto (off := -12) (tgt := 5) (by decide +kernel) (by decide) ?_
    exact ih (i + 1) (by omega)
theorem alen_lt : ∀ i, i < 215 → knd i = 10 → alen i < 2 ^ 31 := by decide +kernel
theorem x_R_fill (hf : l.flags = flags0) (hI : Inj ad) {h : HP} {a0 N : Nat} {x1 : Int32} {r : HP} (k0 : knd a0 = 10) (q0 : alen a0 = N) (e : f_R_fill h a0 x1 = some r) : CT l D ad aC m_R_fill [.ref a0, .int x1] h (.inl none) r := by
  obtain rfl := Option.some.inj e
  refine CT.ofGo (by decide +kernel) rfl (Nat.le_of_ble_eq_true rfl) ?_
  show Go l D ad aC (rmk m_R_fill) _ m_R_fill 0 [some (.ref a0), some (.int x1), none, none] [] h 0 0
  refine Go.run (pc' := 3) [.iconst 0, .istore_n 2, .aload_n 0] (ls' := [some (.ref a0), some (.int x1), some (.int 0), none]) (st' := [.ref a0]) (by decide +kernel) rfl rfl ?_
  refine Go.alen (v := nI N) k0 q0 rfl (by decide +kernel) ?_
  refine Go.run (pc' := 5) [.istore_n 3] (ls' := [some (.ref a0), some (.int x1), some (.int 0), some (.int (nI N))]) (st' := []) (by decide +kernel) rfl rfl ?_
  have G := x_fill_loop (l := l) (D := D) (aC := aC) (h := h) (x1 := x1) hI k0 q0 (by rw [← q0]; exact kd (P := fun t => alen t < 2 ^ 31) (by decide) alen_lt k0) N 0 (by omega)
  rw [fill_0, nI_0, ← q0] at G
  rw [← q0]
  exact G
/-- out of a static array -/
theorem copyT (hexec : True) : True := trivial
end FILL
