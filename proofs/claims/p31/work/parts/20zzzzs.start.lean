/-! the law's entry: what the statics, the texts, the tables give; then the makers; then the world by ids -/
section START
variable {p : Program} {e : Env} {s : State} {m : MethodId} {below : List Frame} {meth : Method} {c : Code} {l : Launch} {b L : Nat} {xs : Nat → Int32}
theorem tb_at {s : State} {args : Array Value} (hts : ∀ w ∈ lw_tbl, w.before args s = true) {w : Cond} (i : Nat) (h : tables_1[i]? = some w) : w.before args s = true := hts w (List.mem_append_right _ (List.mem_of_getElem? h))
theorem EvS.ad {ad ad' : Nat → Nat} {A : Nat → Prop} {U : State} {H : Heap} (e1 : ad 215 = ad' 215) (e2 : ad 216 = ad' 216) (h : EvS ad A U H) : EvS ad' A U H := by
  unfold EvS at h ⊢
  rw [e1, e2] at h
  exact h
theorem Ev.ad {ad ad' : Nat → Nat} {A : Nat → Prop} {U : State} {H : Heap} (he : ∀ i, 212 ≤ i → i < 217 → ad i = ad' i) (h : Ev ad A U H) : Ev ad' A U H :=
  ⟨h.1, fun i h1 h2 => by rw [← he i h1 (by omega)]; exact h.2.1 i h1 h2, h.2.2.1, EvS.ad (he 215 (by decide) (by decide)) (he 216 (by decide) (by decide)) h.2.2.2.1, h.2.2.2.2⟩
def stTm (i : Nat) : Term := .static (sCN i).1 (sCN i).2 "[I"
set_option maxRecDepth 100000 in
theorem st_el : ∀ i, 212 ≤ i → i < 215 → Cond.arrayOf (stTm i) .int ∈ flatC (Jvm.Cond.and given_1 narrow_1) ∧ Cond.eq (.length (stTm i)) (.int (Int32.ofNat (alen i))) ∈ flatC (Jvm.Cond.and given_1 narrow_1) ∧ ∀ j, j < alen i → Cond.eq (.elem (stTm i) (.int (Int32.ofNat j))) (.int (sarr i j)) ∈ flatC (Jvm.Cond.and given_1 narrow_1) := by
  intro i h1 h2
  rcases (by omega : i = 212 ∨ i = 213 ∨ i = 214) with rfl | rfl | rfl
  · exact ⟨by decide +kernel, by decide +kernel, by decide +kernel⟩
  · exact ⟨by decide +kernel, by decide +kernel, by decide +kernel⟩
  · exact ⟨by decide +kernel, by decide +kernel, by decide +kernel⟩
def tx40 : Term := .string "FairWalls$FairText" 40
set_option maxRecDepth 100000 in
theorem tx_el : Cond.exactly tx40 "java/lang/String" ∈ flatC (Jvm.Cond.and given_1 narrow_1) ∧ Cond.eq (.field tx40 "java/lang/String" "coder" "B") (.int 0) ∈ flatC (Jvm.Cond.and given_1 narrow_1) ∧ Cond.arrayOf (.field tx40 "java/lang/String" "value" "[B") .byte ∈ flatC (Jvm.Cond.and given_1 narrow_1) ∧ Cond.eq (.length (.field tx40 "java/lang/String" "value" "[B")) (.int (Int32.ofNat 8)) ∈ flatC (Jvm.Cond.and given_1 narrow_1) ∧ ∀ j, j < 8 → Cond.eq (.elem (.field tx40 "java/lang/String" "value" "[B") (.int (Int32.ofNat j))) (.int (lixB.getD j 0)) ∈ flatC (Jvm.Cond.and given_1 narrow_1) :=
  ⟨by decide +kernel, by decide +kernel, by decide +kernel, by decide +kernel, by decide +kernel⟩
theorem str_at {args : Array Value} {own : String} {k : Nat} (hs : ∀ c ∈ flatC (Jvm.Cond.and given_1 narrow_1), c.before args s = true) (h : Cond.exactly (.string own k) "java/lang/String" ∈ flatC (Jvm.Cond.and given_1 narrow_1)) : ∃ a : Nat, (Term.string own k).eval args s none [] s = some (.ref a) := by
  obtain ⟨a, c, cA, kA, q1, -⟩ := Cond.exactly_spec (args := args) (first := s) (o := none) (s := s) (idx := []) (hs _ h)
  exact ⟨a, q1⟩
theorem ev_start (C0 : lw_At p s m meth c b L xs) : ∃ ad : Nat → Nat, EvK ad (fun q : Nat => s.heap.size ≤ q) s s.heap := by
  obtain ⟨hx, hb, hr, hml, hown, hts, hX, hbl, hlocks, hgv⟩ := C0
  have hs := flat_of_before _ hgv
  have hA : ∀ a : Nat, a < s.heap.size → ¬ (fun q : Nat => s.heap.size ≤ q) a := fun a h => Nat.not_le.mpr h
  have hT : ∀ i, ∃ t : Nat, 212 ≤ i → i < 215 → (stTm i).eval #[Value.ref b] s none [] s = some (.ref t) ∧ va_T .int t (alen i) (fun j => .int (sarr i j)) (fun q : Nat => s.heap.size ≤ q) s s.heap := by
    intro i
    by_cases h : 212 ≤ i ∧ i < 215
    · obtain ⟨g1, g2, g3⟩ := st_el i h.1 h.2
      have hN : alen i < 2 ^ 31 := (by decide +kernel : ∀ i, i < 215 → alen i < 2 ^ 31) i h.2
      obtain ⟨t, ht, hTt⟩ := va_Tof (f := fun j => .int (sarr i j)) hN (hs _ g1) (va_eqt (hs _ g2)) (fun j hj => va_eqt (hs _ (g3 j hj))) hA
      exact ⟨t, fun _ _ => ⟨ht, hTt⟩⟩
    · exact ⟨0, fun h1 h2 => absurd ⟨h1, h2⟩ h⟩
  obtain ⟨tS, htS⟩ := Classical.axiomOfChoice hT
  obtain ⟨e1, e2, e3, e4, e5⟩ := tx_el
  have z0 : ∀ i : Nat, i < 1 → i = 0 := fun i h => by omega
  obtain ⟨adK, adV, hSS, hSe⟩ := vk_Sof (args := #[Value.ref b]) (s := s) (N := 1) (tm := fun _ => tx40) (len := [8]) (byt := [lixB]) (A := fun q : Nat => s.heap.size ≤ q) (fun i hi => by rw [z0 i hi]; decide) (fun i _ => hs _ e1) (fun i _ => hs _ e2) (fun i _ => hs _ e3)
    (fun i hi => by rw [z0 i hi]; exact hs _ e4) (fun i hi j hj => by rw [z0 i hi] at hj ⊢; exact hs _ (e5 j hj)) (fun i j hi hj hij => absurd ((z0 i hi).trans (z0 j hj).symm) hij) hA
  refine ⟨fun i => if i = 215 then adK 0 else if i = 216 then adV 0 else tS i, ⟨fun w hw => va_Nw.of (Nw_tab hw) (hts w (List.mem_append_right _ (List.mem_filter.mp hw).1)), fun i h1 h2 => ?_, ⟨?_, ?_⟩, ⟨fun i hi => ?_, ?_, ?_, ?_⟩, ?_⟩, ?_⟩
  · obtain ⟨g1, g2⟩ := htS i h1 h2
    have hne : (if i = 215 then adK 0 else if i = 216 then adV 0 else tS i) = tS i := by rw [if_neg (by omega), if_neg (by omega)]
    show va_Z _ _ _ (.ref (if i = 215 then adK 0 else if i = 216 then adV 0 else tS i)) _ _ _ ∧ va_T _ (if i = 215 then adK 0 else if i = 216 then adV 0 else tS i) _ _ _ _ _
    rw [hne]
    refine ⟨?_, g2⟩
    rcases (by omega : i = 212 ∨ i = 213 ∨ i = 214) with rfl | rfl | rfl
    · exact va_Zref (tb_at hts 51 (by decide +kernel)) (tb_at hts 3 (by decide +kernel)) g1 hA
    · exact va_Zref (tb_at hts 590 (by decide +kernel)) (tb_at hts 2 (by decide +kernel)) g1 hA
    · exact va_Zref (tb_at hts 350 (by decide +kernel)) (tb_at hts 9 (by decide +kernel)) g1 hA
  · exact vx_Zqof (tb_at hts 389 (by decide +kernel)) (tb_at hts 10 (by decide +kernel)) (hs _ (by decide +kernel)) hA
  · exact vx_Zqof (tb_at hts 391 (by decide +kernel)) (tb_at hts 10 (by decide +kernel)) (hs _ (by decide +kernel)) hA
  · rcases (by omega : i = 0 ∨ i = 1 ∨ i = 2) with rfl | rfl | rfl
    · obtain ⟨a, ha⟩ := str_at (own := "FairWalls") (k := 327) hs (by decide +kernel)
      exact ⟨a, vk_R.of (tb_at hts 613 (by decide +kernel)) ha⟩
    · obtain ⟨a, ha⟩ := str_at (own := "FairWalls") (k := 334) hs (by decide +kernel)
      exact ⟨a, vk_R.of (tb_at hts 678 (by decide +kernel)) ha⟩
    · obtain ⟨a, ha⟩ := str_at (own := "FairWalls") (k := 339) hs (by decide +kernel)
      exact ⟨a, vk_R.of (tb_at hts 403 (by decide +kernel)) ha⟩
  · exact vk_R.of (tb_at hts 262 (by decide +kernel)) (hSe 0 (by decide))
  · refine ⟨fun i hi => ?_, fun i j hi hj _ => by omega⟩
    have : i = 0 := by omega
    subst this
    exact hSS.1 0 (by decide)
  · exact va_Zof (tb_at hts 276 (by decide +kernel)) (tb_at hts 16 (by decide +kernel)) (va_eqi (hs _ (by decide +kernel))) hA
  · intro q hq
    have hq2 : Cond.not (.castable q.1 q.2) ∈ flatC (Jvm.Cond.and given_1 narrow_1) := (by decide +kernel : ∀ q ∈ ncP, Cond.not (.castable q.1 q.2) ∈ flatC (Jvm.Cond.and given_1 narrow_1)) q hq
    exact va_Nc.of (hs _ hq2)
  · exact va_AO.of (tb_at hts 167 (by decide +kernel))
end START
