/-! the two worlds by ids, out of the makers' lists -/
section WORLD
variable {p : Program} {e : Env} {s : State} {m : MethodId} {below : List Frame} {meth : Method} {c : Code} {l : Launch} {b L : Nat} {xs : Nat → Int32}
theorem kn_start {args : Array Value} (hts : ∀ w ∈ lw_tbl, w.before args s = true) : ∃ D : va_G, va_K D clsL [] s := by
  obtain ⟨c1, i1, h1⟩ := u_known (C := "FairWalls$Fair") (T := TX1) (N := 2) (n := 2) hts inTX1 (tb_at hts 32 (by decide +kernel))
  obtain ⟨c2, i2, h2⟩ := u_known (C := "FairWalls$FairText") (T := TX2) (N := 5) (n := 5) hts inTX2 (tb_at hts 196 (by decide +kernel))
  obtain ⟨c3, i3, h3⟩ := u_known (C := "FairWalls$Past") (T := TX3) (N := 3) (n := 3) hts inTX3 (tb_at hts 161 (by decide +kernel))
  obtain ⟨c4, i4, h4⟩ := u_known (C := "FairWalls$Power") (T := TX4) (N := 3) (n := 3) hts inTX4 (tb_at hts 134 (by decide +kernel))
  obtain ⟨c5, i5, h5⟩ := u_known (C := "FairWalls$Slots") (T := TX5) (N := 2) (n := 2) hts inTX5 (tb_at hts 180 (by decide +kernel))
  obtain ⟨c6, i6, h6⟩ := u_known (C := "FairWalls$State") (T := TX6) (N := 14) (n := 14) hts inTX6 (tb_at hts 38 (by decide +kernel))
  obtain ⟨c7, i7, h7⟩ := u_known (C := "FairWalls") (T := TX7) (N := 6) (n := 6) hts inTX7 (tb_at hts 24 (by decide +kernel))
  refine ⟨(fun k => [c1, c1, c2, c3, c4, c5, c6, c7].getD k c1, fun k => [i1, i1, i2, i3, i4, i5, i6, i7].getD k i1), fun k q hq => ?_, fun k q h => by simp at h⟩
  match k, hq with
  | 0, hq => cases hq; exact h1
  | 1, hq => cases hq; exact h1
  | 2, hq => cases hq; exact h2
  | 3, hq => cases hq; exact h3
  | 4, hq => cases hq; exact h4
  | 5, hq => cases hq; exact h5
  | 6, hq => cases hq; exact h6
  | 7, hq => cases hq; exact h7
  | k + 8, hq => simp [clsL] at hq
theorem cell_ext {cA : ClassId} {n : Nat} {f g : Nat → Option Nat} (h : ∀ j, j < n → f j = g j) : vp_cell cA (n, .inr (.inr (.inr (.inr f)))) = vp_cell cA (n, .inr (.inr (.inr (.inr g)))) := by
  show arrV cA n (fun j => va_rf (f j)) = arrV cA n (fun j => va_rf (g j))
  have e : (fun j : Fin n => va_rf (f j.val)) = (fun j : Fin n => va_rf (g j.val)) := by
    funext j
    rw [h j.val j.isLt]
  unfold arrV
  rw [e]
def FR (i k : Nat) : Prop := (k < nF (knd i) ∧ isR (knd i) k = true) ∨ (knd i = 14 ∧ k < alen i)
theorem ent'_c {ad ad' : Nat → Nat} {aC aC' : Nat → ClassId} {h : HP} {i : Nat} (he : aC i = aC' i) (h1 : ∀ k, FR i k → ad (fld i k) = ad' (fld i k)) : ent' ad aC h i = ent' ad' aC' h i := by
  unfold ent'
  by_cases hk : knd i = 14
  · rw [if_pos hk, if_pos hk, he]
    have e : (fun j => if j < alen i then some (ad (fld i j)) else none) = (fun j => if j < alen i then some (ad' (fld i j)) else none) := by
      funext j
      by_cases hj : j < alen i
      · rw [if_pos hj, if_pos hj, h1 j (Or.inr ⟨hk, hj⟩)]
      · rw [if_neg hj, if_neg hj]
    rw [e]
  · rw [if_neg hk, if_neg hk]
    unfold ent
    by_cases h10 : knd i < 10
    · rw [if_pos h10, if_pos h10]
      have e : (List.range (nF (knd i))).map (fun k => if isR (knd i) k = true then Value.ref (ad (fld i k)) else .int (h i k)) = (List.range (nF (knd i))).map (fun k => if isR (knd i) k = true then Value.ref (ad' (fld i k)) else .int (h i k)) := by
        refine List.map_congr_left (fun k hkm => ?_)
        by_cases hr : isR (knd i) k = true
        · rw [if_pos hr, if_pos hr, h1 k (Or.inl ⟨List.mem_range.mp hkm, hr⟩)]
        · rw [if_neg hr, if_neg hr]
      rw [e]
    · simp only [h10, hk, if_false, he]
theorem wo_c {ord : List Nat} {ad ad' : Nat → Nat} {aC aC' : Nat → ClassId} (h : ∀ i ∈ ord, ad i = ad' i ∧ aC i = aC' i ∧ ∀ k, FR i k → ad (fld i k) = ad' (fld i k)) : wo ord ad aC = wo ord ad' aC' := by
  unfold wo
  refine List.map_congr_left (fun i hi => ?_)
  obtain ⟨h1, h2, h3⟩ := h i hi
  rw [h1, ent'_c h2 h3]
theorem FR_le : ∀ i, i < 200 → nF (knd i) ≤ 16 ∧ (knd i = 14 → alen i ≤ 16) := by decide +kernel
theorem FR_F : ∀ i, i < 200 → ∀ k, k < 16 → (k < nF (knd i) ∧ isR (knd i) k = true) ∨ (knd i = 14 ∧ k < alen i) → fld i k < 200 := by decide +kernel
theorem FR_k {i k : Nat} (hi : i < 200) (h : FR i k) : k < 16 := by
  obtain ⟨h1, h2⟩ := FR_le i hi
  rcases h with h | h
  · omega
  · have := h2 h.1
    omega
def adA (a1 : Nat → Nat) (b : Nat) (a0 : Nat → Nat) : Nat → Nat := fun i => if i < 200 then a1 i else if i = 217 then b else a0 i
theorem adA_F {a1 a0 : Nat → Nat} {b i : Nat} (h : i < 200) : adA a1 b a0 i = a1 i := if_pos h
theorem ord_F : ∀ i ∈ ordF, i < 200 := by decide +kernel
theorem wo_one {a1 a0 : Nat → Nat} {c1 : Nat → ClassId} {b : Nat} : wo ordF a1 c1 = wo ordF (adA a1 b a0) c1 := by
  refine wo_c (fun i hi => ?_)
  have h := ord_F i hi
  exact ⟨(adA_F h).symm, rfl, fun k hk => (adA_F (FR_F i h k (FR_k h hk) hk)).symm⟩
theorem ordA_all : ∀ i, i < 200 → i ∈ ordF := by decide +kernel
theorem world_of {D : va_G} {H : Heap} {A : Nat → Prop} {ad : Nat → Nat} {aC : Nat → ClassId} (h : va_P D clsL (wo ordF ad aC) H) (hD : va_D A (wo ordF ad aC)) : va_P D clsL (wl ad aC hIni) H ∧ Inj ad ∧ ∀ i, i < 200 → A (ad i) := by
  have hm : ∀ i, i < 200 → ∃ k : Nat, ordF[k]? = some i := fun i hi => List.getElem?_of_mem (ordA_all i hi)
  have hw : ∀ k i : Nat, ordF[k]? = some i → (wo ordF ad aC)[k]? = some (ad i, ent' ad aC hIni i) := by
    intro k i hk
    unfold wo
    rw [List.getElem?_map, hk]
    rfl
  refine ⟨fun k q hq => ?_, fun i j hi hj e => ?_, fun i hi => ?_⟩
  · obtain ⟨hi, rfl⟩ := wl_get hq
    obtain ⟨k2, hk2⟩ := hm _ hi
    have h1 := h k2 _ (hw _ _ hk2)
    by_cases h14 : knd k = 14
    · unfold ent' at h1
      rw [if_pos h14] at h1
      have h2 : H[ad k]? = some (vp_cell (aC k) (alen k, .inr (.inr (.inr (.inr (fun j => if j < alen k then some (ad (fld k j)) else none)))))) := h1
      rw [ent_q h14]
      show H[ad k]? = some (vp_cell (aC k) (alen k, .inr (.inr (.inr (.inr (fun j => some (ad (fld k j))))))))
      rw [h2]
      congr 1
      exact cell_ext (fun j hj => by rw [if_pos hj])
    · unfold ent' at h1
      rw [if_neg h14] at h1
      exact h1
  · obtain ⟨k1, h1⟩ := hm i hi
    obtain ⟨k2, h2⟩ := hm j hj
    have e2 := hD.1 k1 k2 _ _ (hw _ _ h1) (hw _ _ h2) e
    subst e2
    rw [h1] at h2
    exact Option.some.inj h2
  · obtain ⟨k, hk⟩ := hm i hi
    exact hD.2 k _ (hw _ _ hk)
theorem wo_apart {A : Nat → Prop} {a1 a2 : Nat → Nat} {c1 c2 : Nat → ClassId} (h : va_D A (wo ordF a1 c1 ++ wo ordF a2 c2)) : ∀ i j, i < 200 → j < 200 → a1 i ≠ a2 j := by
  intro i j hi hj e
  obtain ⟨k1, h1⟩ := List.getElem?_of_mem (ordA_all i hi)
  obtain ⟨k2, h2⟩ := List.getElem?_of_mem (ordA_all j hj)
  have w1 : (wo ordF a1 c1)[k1]? = some (a1 i, ent' a1 c1 hIni i) := by
    unfold wo
    rw [List.getElem?_map, h1]
    rfl
  have w2 : (wo ordF a2 c2)[k2]? = some (a2 j, ent' a2 c2 hIni j) := by
    unfold wo
    rw [List.getElem?_map, h2]
    rfl
  have hk1 : k1 < (wo ordF a1 c1).length := (List.getElem?_eq_some_iff.mp w1).1
  have q1 : (wo ordF a1 c1 ++ wo ordF a2 c2)[k1]? = some (a1 i, ent' a1 c1 hIni i) := by rw [List.getElem?_append_left hk1]; exact w1
  have q2 : (wo ordF a1 c1 ++ wo ordF a2 c2)[(wo ordF a1 c1).length + k2]? = some (a2 j, ent' a2 c2 hIni j) := by
    rw [List.getElem?_append_right (by omega), Nat.add_sub_cancel_left]
    exact w2
  have := h.1 k1 ((wo ordF a1 c1).length + k2) _ _ q1 q2 e
  omega
theorem wo_left {A : Nat → Prop} {D : va_G} {H : Heap} {w1 w2 : va_W} (hP : va_P D clsL (w1 ++ w2) H) (hD : va_D A (w1 ++ w2)) : va_P D clsL w1 H ∧ va_D A w1 := by
  have f : ∀ (k : Nat) (q : Nat × va_E), w1[k]? = some q → (w1 ++ w2)[k]? = some q := fun k q hq => by
    rw [List.getElem?_append_left (List.getElem?_eq_some_iff.mp hq).1]; exact hq
  exact ⟨fun k q hq => hP k q (f k q hq), fun i j p q hp hq e => hD.1 i j p q (f i p hp) (f j q hq) e, fun k q hq => hD.2 k q (f k q hq)⟩
theorem wo_right {A : Nat → Prop} {D : va_G} {H : Heap} {w1 w2 : va_W} (hP : va_P D clsL (w1 ++ w2) H) (hD : va_D A (w1 ++ w2)) : va_P D clsL w2 H ∧ va_D A w2 := by
  have f : ∀ (k : Nat) (q : Nat × va_E), w2[k]? = some q → (w1 ++ w2)[w1.length + k]? = some q := fun k q hq => by
    rw [List.getElem?_append_right (by omega), Nat.add_sub_cancel_left]; exact hq
  exact ⟨fun k q hq => hP _ q (f k q hq), fun i j p q hp hq e => by have := hD.1 _ _ p q (f i p hp) (f j q hq) e; omega, fun k q hq => hD.2 _ q (f k q hq)⟩
theorem go_start (C0 : lw_At p s m meth c b L xs) (kk : ∀ (D : va_G) (a1 a2 : Nat → Nat) (c1 c2 : Nat → ClassId), IZ a1 a2 → Gz l D a1 a2 c1 c2 room_1 (QLz a1 a2 L xs) m_Q_law 16 [some (.ref 217), some (.ref 180), some (.ref 1180), none, none, none, none] [] (hIni, hIni) 400 8400) : W p l e room_1 s m #[Value.ref b] below meth c s.heap [] 0 0 (lw_Z below #[Value.ref b] s) (entryFrame m ([Value.ref b] : List Value).toArray 7) := by
  have C1 := C0
  obtain ⟨hx, hb, hr, hml, hown, hts, hX, hbl, hlocks, hgv⟩ := C0
  obtain ⟨a0, hev⟩ := ev_start C1
  obtain ⟨D, hK⟩ := kn_start hts
  have hGT : ∀ w ∈ GT, w.before #[Value.ref b] s = true := fun w hw => hts w (List.mem_filter.mp hw).1
  have hA : ∀ q : Nat, s.heap.size ≤ q → (fun q : Nat => s.heap.size ≤ q) q := fun q h => h
  have F : FK a0 m_Q_law p s m #[Value.ref b] meth c (fun q : Nat => s.heap.size ≤ q) := ⟨hx, hb, hr, hml, hown, hGT, hlocks, hev, hA, fun h => absurd h (by decide)⟩
  have hS : va_S (fun q : Nat => s.heap.size ≤ q) s.heap s.heap [] := va_S.rf
  have hP : va_P D clsL [] s.heap := fun k q h => by simp at h
  have hD : va_D (fun q : Nat => s.heap.size ≤ q) [] := ⟨fun i j p q h => by simp at h, fun k q h => by simp at h⟩
  rw [lg_entry_eq]
  have hl := LV.entry aid [.ref b] (n := 7) (Nat.le_of_ble_eq_true rfl)
  have e1 : ([Value.ref b]).map (cv aid) = [.ref b] := rfl
  rw [e1] at hl
  generalize (lg_sl ([.ref b]) ++ List.replicate (7 - (lg_sl ([.ref b])).length) Slot.unset).toArray = cs at hl ⊢
  have hl : LV aid cs m_Q_law.mL [some (.ref b), none, none, none, none, none, none] := hl
  refine k_newI (M := m_Q_law) (ws := []) (rest := []) (ix := 10) (idx := 199) (ci := 7) (N := 6) (C := "FairWalls") (T := TX7) (fs := [.null, .null, .null, .null, .null, .null]) (fun q => c_F_init l D a0 q) F hl (gdT inTX7 gdTX7) tyX7 tyX7_ok (gtb 23 (by decide +kernel) (by decide +kernel)) (gtb 24 (by decide +kernel) (by decide +kernel)) (gtb 1 (by decide +kernel) (by decide +kernel)) rfl (fun j hj => by rcases (by omega : j = 0 ∨ j = 1 ∨ j = 2 ∨ j = 3 ∨ j = 4 ∨ j = 5) with rfl | rfl | rfl | rfl | rfl | rfl <;> rfl) (Or.inl ⟨gtb 25 (by decide +kernel) (by decide +kernel), iw_F_init, cw_F_init, rfl, by decide +kernel, by decide +kernel⟩) rfl rfl nw_F_init hK hP hD hS (by decide +kernel) (by decide +kernel) (by decide +kernel) (Nat.le_of_ble_eq_true rfl) (Nat.le_of_ble_eq_true rfl) ⟨⟨Nat.le_of_ble_eq_true rfl, Nat.le_of_ble_eq_true rfl⟩, ⟨Nat.le_of_ble_eq_true rfl, Nat.le_of_ble_eq_true rfl⟩⟩ (Nat.le_of_ble_eq_true rfl) (fun q u H locs hu hK hP hD hS => ?_)
  obtain ⟨x1, y1⟩ := u
  obtain ⟨a1, c1, rfl, rfl, h1⟩ := hu
  refine k_run (pc' := 8) (st := [.ref (a1 180)]) [.astore_n 1] F.1 F.2.1 (by decide +kernel) rfl rfl hl rfl (fun cs hl => ?_)
  replace hP : va_P D clsL (wo ordF a1 c1) H := hP
  replace hD : va_D (fun q : Nat => s.heap.size ≤ q) (wo ordF a1 c1) := hD
  replace hK : va_K D clsL y1 s := hK
  refine k_newI (M := m_Q_law) (ws := (wo ordF a1 c1)) (rest := []) (ix := 10) (idx := 199) (ci := 7) (N := 6) (C := "FairWalls") (T := TX7) (fs := [.null, .null, .null, .null, .null, .null]) (fun q => c_F_init l D a0 q) F hl (gdT inTX7 gdTX7) tyX7 tyX7_ok (gtb 23 (by decide +kernel) (by decide +kernel)) (gtb 24 (by decide +kernel) (by decide +kernel)) (gtb 1 (by decide +kernel) (by decide +kernel)) rfl (fun j hj => by rcases (by omega : j = 0 ∨ j = 1 ∨ j = 2 ∨ j = 3 ∨ j = 4 ∨ j = 5) with rfl | rfl | rfl | rfl | rfl | rfl <;> rfl) (Or.inl ⟨gtb 25 (by decide +kernel) (by decide +kernel), iw_F_init, cw_F_init, rfl, by decide +kernel, by decide +kernel⟩) rfl rfl nw_F_init hK hP hD hS (by decide +kernel) (by decide +kernel) (by decide +kernel) (Nat.le_of_ble_eq_true rfl) (Nat.le_of_ble_eq_true rfl) ⟨⟨Nat.le_of_ble_eq_true rfl, Nat.le_of_ble_eq_true rfl⟩, ⟨Nat.le_of_ble_eq_true rfl, Nat.le_of_ble_eq_true rfl⟩⟩ (Nat.le_of_ble_eq_true rfl) (fun q u H locs hu hK hP hD hS => ?_)
  obtain ⟨x2, y2⟩ := u
  obtain ⟨a2, c2, rfl, rfl, h2⟩ := hu
  refine k_run (pc' := 16) (st := [.ref (a2 180)]) [.astore_n 2] F.1 F.2.1 (by decide +kernel) rfl rfl hl rfl (fun cs hl => ?_)
  replace hP : va_P D clsL (wo ordF a1 c1 ++ wo ordF a2 c2) H := hP
  replace hD : va_D (fun q : Nat => s.heap.size ≤ q) (wo ordF a1 c1 ++ wo ordF a2 c2) := hD
  replace hK : va_K D clsL (y1 ++ y2) s := hK
  have hap := wo_apart hD
  obtain ⟨hP1, hD1⟩ := wo_left hP hD
  obtain ⟨hP2, hD2⟩ := wo_right hP hD
  rw [wo_one (b := b) (a0 := a0)] at hP1 hD1 hP2 hD2
  obtain ⟨u1, u2, u3⟩ := world_of hP1 hD1
  obtain ⟨w1, w2, w3⟩ := world_of hP2 hD2
  have hKK1 : KK D c1 s := ⟨hK.mem (fun q hq => nomatch hq), fun i hi hk => by
    obtain ⟨j, hj⟩ := List.getElem?_of_mem (List.mem_append_left y2 (h1 i (ordA_all i hi) hk))
    exact hK.2 j _ hj⟩
  have hKK2 : KK D c2 s := ⟨hK.mem (fun q hq => nomatch hq), fun i hi hk => by
    obtain ⟨j, hj⟩ := List.getElem?_of_mem (List.mem_append_right y1 (h2 i (ordA_all i hi) hk))
    exact hK.2 j _ hj⟩
  have hAZ : ∀ z : Nat, AZ (adA a1 b a0) (adA a2 b a0) s.heap.size z → s.heap.size ≤ z := by
    intro z hz
    rcases hz with (⟨i, hi, rfl⟩ | hz) | (⟨i, hi, rfl⟩ | hz)
    · exact u3 i hi
    · exact hz
    · exact w3 i hi
    · exact hz
  have hEv : ∀ a : Nat → Nat, Ev (adA a b a0) (AZ (adA a1 b a0) (adA a2 b a0) s.heap.size) s s.heap := by
    intro a
    refine Ev.narrow (A := fun q : Nat => s.heap.size ≤ q) (Ev.ad (ad := a0) (fun i g1 g2 => ?_) hev.1) hAZ
    unfold adA
    rw [if_neg (by omega), if_neg (by omega)]
  have hS' : va_S (AZ (adA a1 b a0) (adA a2 b a0) s.heap.size) s.heap H locs := ⟨hS.1, fun z g1 g2 => hS.2.1 z g1 (fun g3 => g2 (Or.inl (Or.inr g3))), fun z hz => Or.inl (Or.inr (hS.2.2 z hz))⟩
  have hIZ : IZ (adA a1 b a0) (adA a2 b a0) := ⟨u2, w2, fun i j hi hj => by rw [adA_F hi, adA_F hj]; exact hap i j hi hj, fun i g1 g2 => by
    unfold adA
    rw [if_neg (show ¬ i < 200 by omega), if_neg (show ¬ i < 200 by omega)]⟩
  have hg := kk D (adA a1 b a0) (adA a2 b a0) c1 c2 hIZ p e s m #[Value.ref b] below meth c H locs cs ⟨hx, hb, hr, hml, hown, hGT, fun h => absurd h (by decide), hlocks, hEv a1, hEv a2⟩ hS' ⟨⟨u1, hKK1⟩, ⟨w1, hKK2⟩⟩ hl
  refine W_mono (fun t ht => ht ⟨rfl, hX, hbl, fun i hi => ⟨u3 i hi, w3 i hi⟩⟩) (W.widen (by decide) (by decide) hg)
end WORLD
