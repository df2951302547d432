/-! System.arraycopy out of a static array; Arrays.fill -/
section FILL
variable {l : Launch} {D : va_G} {ad : Nat → Nat} {aC : Nat → ClassId} {R : Room} {QQ : List Frame → Array Value → State → State → Prop} {M M2 : MI} {pc k n idx : Nat} {ls ls' : List (Option Value)} {st st' rest as : List Value} {h h1 : HP}
def f_R_fill (h : HP) (a0 : Nat) (x1 : Int32) : Option HP := some (hrow h a0 (fun j => if j < alen a0 then x1 else h a0 j))
theorem fill_row {h : HP} {a N : Nat} {x : Int32} : ∀ i, i < N → hset (hrow h a (fun j => if j < i then x else h a j)) a i x = hrow h a (fun j => if j < i + 1 then x else h a j) := by
  intro i hi
  funext b
  by_cases hb : b = a
  · subst hb
    rw [hset_eq, hrow_s, hrow_s, hrow_s]
    funext j
    unfold upd
    by_cases hj : j = i
    · subst hj; rw [if_pos rfl, if_pos (Nat.lt_succ_self _)]
    · rw [if_neg hj]
      dsimp only
      by_cases h2 : j < i
      · rw [if_pos h2, if_pos (by omega)]
      · rw [if_neg h2, if_neg (by omega)]
  · rw [hset_eq, hrow_n _ _ hb, hrow_n _ _ hb, hrow_n _ _ hb]
theorem fill_0 {h : HP} {a : Nat} {x : Int32} : hrow h a (fun j => if j < 0 then x else h a j) = h := by
  funext b
  by_cases hb : b = a
  · subst hb; rw [hrow_s]; funext j; rw [if_neg (Nat.not_lt_zero _)]
  · rw [hrow_n _ _ hb]
theorem x_fill_loop {h : HP} {a0 N : Nat} {x1 : Int32} (hI : Inj ad) (k0 : knd a0 = 10) (q0 : alen a0 = N) (hN : N < 2 ^ 31) : ∀ (m i : Nat), i + m = N → Go l D ad aC (rmk m_R_fill) (QM D ad aC m_R_fill (.inl none) (hrow h a0 (fun j => if j < N then x1 else h a0 j))) m_R_fill 5 [some (.ref a0), some (.int x1), some (.int (nI i)), some (.int (nI N))] [] (hrow h a0 (fun j => if j < i then x1 else h a0 j)) 0 0 := by
  intro m
  induction m with
  | zero =>
    intro i hi
    have e : i = N := by omega
    subst e
    refine Go.run (pc' := 7) [.iload_n 2, .iload_n 3] (ls' := [some (.ref a0), some (.int x1), some (.int (nI i)), some (.int (nI i))]) (st' := [.int (nI i), .int (nI i)]) (by decide +kernel) rfl rfl ?_
    refine Go.ic_ge (off := 13) (tgt := 20) (by decide +kernel) (by decide) (fun _ => ?_) (fun c => absurd (nI_le (Nat.le_refl i) hN) c)
    exact Go.vret rfl (by decide) (by decide) (by decide +kernel)
  | succ m ih =>
    intro i hi
    have hlt : i < N := by omega
    refine Go.run (pc' := 7) [.iload_n 2, .iload_n 3] (ls' := [some (.ref a0), some (.int x1), some (.int (nI i)), some (.int (nI N))]) (st' := [.int (nI N), .int (nI i)]) (by decide +kernel) rfl rfl ?_
    refine Go.ic_ge (off := 13) (tgt := 20) (by decide +kernel) (by decide) (fun c => absurd c (nI_ge hlt hN)) (fun _ => ?_)
    refine Go.run (pc' := 13) [.aload_n 0, .iload_n 2, .iload_n 1] (ls' := [some (.ref a0), some (.int x1), some (.int (nI i)), some (.int (nI N))]) (st' := [.int x1, .int (nI i), .ref a0]) (by decide +kernel) rfl rfl ?_
    have hb : ib (nI i) N = true := by
      unfold ib
      rw [nI_clamp (by omega)]
      simp only [Bool.and_eq_true, Bool.not_eq_true', decide_eq_false_iff_not, Nat.blt_eq]
      exact ⟨nI_pos (by omega), hlt⟩
    refine Go.iast hI k0 q0 hb (by decide +kernel) ?_
    rw [nI_clamp (by omega), fill_row i hlt]
    refine Go.run (pc' := 17) [.iinc 2 1] (ls' := [some (.ref a0), some (.int x1), some (.int (nI (i + 1))), some (.int (nI N))]) (st' := []) (by decide +kernel) (by rw [nI_succ]; rfl) rfl ?_
    refine Go.goto (off := -12) (tgt := 5) (by decide +kernel) (by decide) ?_
    exact ih (i + 1) (by omega)
theorem alen_lt : ∀ i, i < 215 → knd i = 10 → alen i < 2 ^ 31 := by decide +kernel
theorem x_R_fill (hf : l.flags = flags0) (hI : Inj ad) {h : HP} {a0 N : Nat} {x1 : Int32} {r : HP} (k0 : knd a0 = 10) (q0 : alen a0 = N) (e : f_R_fill h a0 x1 = some r) : CT l D ad aC m_R_fill [.ref a0, .int x1] h (.inl none) r := by
  obtain rfl := Option.some.inj e
  refine CT.ofGo (by decide +kernel) rfl (Nat.le_of_ble_eq_true rfl) ?_
  show Go l D ad aC (rmk m_R_fill) _ m_R_fill 0 [some (.ref a0), some (.int x1), none, none] [] h 0 0
  refine Go.run (pc' := 3) [.iconst 0, .istore_n 2, .aload_n 0] (ls' := [some (.ref a0), some (.int x1), some (.int 0), none]) (st' := [.ref a0]) (by decide +kernel) rfl rfl ?_
  refine Go.alen (v := nI N) k0 q0 rfl (by decide +kernel) ?_
  refine Go.run (pc' := 5) [.istore_n 3] (ls' := [some (.ref a0), some (.int x1), some (.int 0), some (.int (nI N))]) (st' := []) (by decide +kernel) rfl rfl ?_
  have G := x_fill_loop (l := l) (D := D) (aC := aC) (h := h) (x1 := x1) hI k0 q0 (by rw [← q0]; exact kd (P := fun t => alen t < 2 ^ 31) (by decide) alen_lt k0) N 0 (by omega)
  rw [fill_0, nI_0, ← q0] at G
  rw [← q0]
  exact G
end FILL
section COPYS
variable {l : Launch} {D : va_G} {ad : Nat → Nat} {aC : Nat → ClassId} {R : Room} {QQ : List Frame → Array Value → State → State → Prop} {M M2 : MI} {pc k n idx : Nat} {ls ls' : List (Option Value)} {st st' rest as : List Value} {h h1 : HP}
/-- System.arraycopy of ints from the head of a static array to the head of one of the world -/
theorem goCopyS {i b nb N' : Nat} {N : Int32} (hI : Inj ad) (i1 : 212 ≤ i) (i2 : i < 215) (hkb : knd b = 10) (hnb : alen b = nb) (hN : N.toNatClampNeg = N') (h0 : ¬ N < 0) (h4 : N' ≤ alen i) (h5 : N' ≤ nb) (hw : NOK M.y.cls idx) (hfr : 1 ≤ R.frames) (hlo : (rest.map fun v => v.category).sum + (nativeFrameWords "java/lang/System" "arraycopy" 5 + 11) ≤ R.locals)
    (hd : decode M.b pc = .ok (.invokestatic idx, 3)) (g : Go l D ad aC R QQ M (pc + 3) ls rest (hrow h b (cpy0 (sarr i) (h b) N')) k n) : Go l D ad aC R QQ M pc ls (.int N :: .int 0 :: .ref b :: .int 0 :: .ref i :: rest) h k n := by
  intro p e s m args below meth c H locs cs F hS hW hl
  have hts := F.2.2.2.2.2.1
  have hb : b < 200 := knd_in hkb (by omega) (by omega)
  have e0 : (0 : Int32).toNatClampNeg = 0 := rfl
  have hNi : N.toInt = (N' : Int) := by
    have h9 : (0 : Int) ≤ N.toInt := by
      have := Int32.not_lt.mp h0
      simpa using Int32.le_iff_toInt_le.mp this
    have h8 : N.toInt.toNat = N' := hN
    omega
  intro T hT X
  obtain ⟨scr, hs1, hs2, hs3, hs4, -, hs5, hs7⟩ := (F.ev.2.1 i i1 i2).2.kept hS.2.1
  have hat : (wl ad aC h)[b]? = some (ad b, .inl (aC b, alen b, .inl (h b))) := by rw [wl_at ad aC h hb, ent_i hkb (by omega)]
  have hc1 : H[ad b]? = some (vp_cell (aC b) (alen b, .inl (h b))) := hW.1 b _ hat
  obtain ⟨hs6, k0, hk0, cm0, hkk0⟩ := hs2
  obtain ⟨-, k1, hk1, cm1, hkk1⟩ := ((hW.2.arr hkb (by omega) (by omega)).2 0 _ rfl).1 (alen b) (fun j => .int (h b j))
  obtain ⟨vm', X', step⟩ := X.arraycopy F.1 F.2.2.2.2.1 (hts _ hw.1) (hts _ hw.2.1) (hts _ hw.2.2.1) (hts _ hw.2.2.2) (src := ad i) (dst := ad b) (cs := scr) (cd := vp_cell (aC b) (alen b, .inl (h b))) (srcPos := 0) (destPos := 0) (n := N) (by rw [hT]; exact hs1) (by rw [hT]; exact hc1)
    hs6 (fun _ z => by cases z) hs3 (fun z => by cases z) hk0 hk1 hkk0 hkk1 rfl (by decide) (by decide) h0
    (by rw [hNi]; show ¬ ((0 : Int32).toInt + (N' : Int) > (scr.slots.size : Int)); have z : (0 : Int32).toInt = 0 := rfl; rw [z]; omega)
    (by rw [hNi]; show ¬ ((0 : Int32).toInt + (N' : Int) > ((arrV (aC b) (alen b) (fun j => .int (h b j))).slots.size : Int)); have z : (0 : Int32).toInt = 0 := rfl; rw [z, arrV_size]; omega)
    (fun vm₁ _ j hj => by
      have e9 : scr.slots.getD ((0 : Int32).toNatClampNeg + j) .null = .int (sarr i j) := by
        rw [e0, Nat.zero_add, Array.getD_eq_getD_getElem?, hs5 j (by omega)]
        rfl
      exact ⟨by rw [e9]; rfl, by rw [e9]; trivial⟩)
    (g := F0 m pc cs (.int N :: .int 0 :: .ref (ad b) :: .int 0 :: .ref (ad i) :: rest.map (cv ad))) rfl (by rw [F.2.2.2.1]; exact hl.2.1) (rest := rest.map (cv ad)) rfl (by rw [F.2.1]; exact hd) hfr (by show 2 * 0 + _ + _ ≤ _; rw [cat_cv]; omega)
  have e1 : copied scr (vp_cell (aC b) (alen b, .inl (h b))) 0 0 N = vp_cell (aC b) (alen b, .inl (cpy0 (sarr i) (h b) N')) := by
    have q := va_copiedX (fun z => Value.int z) scr (aC b) (n0 := alen i) (n1 := alen b) (sp := 0) (dp := 0) (n := N') (sarr i) (h b) hs5 (by omega)
    have q2 : va_cpy (sarr i) (h b) 0 0 N' = cpy0 (sarr i) (h b) N' := by rw [← va_cpy0 hN, e0, hN]
    rw [q2] at q
    show (arrV (aC b) (alen b) (fun j => Value.int (h b j))).storeRun 0 (scr.stretch 0 N.toNatClampNeg) = _
    rw [hN]
    exact q
  rw [e1] at X' step
  have hlt : ad b < H.size := (Array.getElem?_eq_some_iff.mp hc1).1
  have oq : ∀ q : Nat, q ≠ ad b → (H.setIfInBounds (ad b) (vp_cell (aC b) (alen b, .inl (cpy0 (sarr i) (h b) N'))))[q]? = H[q]? := fun q hq => by simp [Array.getElem?_setIfInBounds, Ne.symm hq]
  have hP1 := hW.1.set (wl_D hI h s.heap.size) hat (e := .inl (aC b, alen b, .inl (cpy0 (sarr i) (h b) N'))) (show (H.setIfInBounds (ad b) (vp_cell (aC b) (alen b, .inl (cpy0 (sarr i) (h b) N'))))[ad b]? = some _ by simp [Array.getElem?_setIfInBounds, hlt]) oq
  rw [wl_row hkb (by omega)] at hP1
  obtain ⟨t, a1, b1⟩ := g p e s m args below meth c (H.setIfInBounds (ad b) (vp_cell (aC b) (alen b, .inl (cpy0 (sarr i) (h b) N')))) _ cs F ⟨by simp; exact hS.1, fun q g1 g2 => by
      rw [oq q (fun z => g2 (by rw [z]; exact AA_in hb))]
      exact hS.2.1 q g1 g2, fun q hq => by
      rcases List.mem_append.mp hq with z | z
      · exact hS.2.2 q z
      · obtain ⟨y, -, hy⟩ := List.mem_map.mp z
        rw [← hy]
        exact AA_in hb⟩ ⟨hP1, hW.2⟩ hl ((T.setVm vm').setCell (ad b) (vp_cell (aC b) (alen b, .inl (cpy0 (sarr i) (h b) N')))) (by rw [← hT]; rfl) X'
  exact ⟨t, step t a1, b1⟩
end COPYS
