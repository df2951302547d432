/-! the world by ids, out of the makers' lists -/
section WORLD
variable {p : Program} {e : Env} {s : State} {m : MethodId} {below : List Frame} {meth : Method} {c : Code} {l : Launch} {b L : Nat} {xs : Nat → Int32}
theorem kn_start {args : Array Value} (hts : ∀ w ∈ lw_tbl, w.before args s = true) : ∃ D : va_G, va_K D clsL [] s := by
  obtain ⟨c1, i1, h1⟩ := u_known (C := "FairWalls$Fair") (T := TX1) (N := 2) (n := 2) hts inTX1 (tb_at hts 33 (by decide +kernel))
  obtain ⟨c2, i2, h2⟩ := u_known (C := "FairWalls$FairText") (T := TX2) (N := 5) (n := 5) hts inTX2 (tb_at hts 197 (by decide +kernel))
  obtain ⟨c3, i3, h3⟩ := u_known (C := "FairWalls$Past") (T := TX3) (N := 3) (n := 3) hts inTX3 (tb_at hts 162 (by decide +kernel))
  obtain ⟨c4, i4, h4⟩ := u_known (C := "FairWalls$Power") (T := TX4) (N := 3) (n := 3) hts inTX4 (tb_at hts 135 (by decide +kernel))
  obtain ⟨c5, i5, h5⟩ := u_known (C := "FairWalls$Slots") (T := TX5) (N := 2) (n := 2) hts inTX5 (tb_at hts 181 (by decide +kernel))
  obtain ⟨c6, i6, h6⟩ := u_known (C := "FairWalls$State") (T := TX6) (N := 14) (n := 14) hts inTX6 (tb_at hts 39 (by decide +kernel))
  obtain ⟨c7, i7, h7⟩ := u_known (C := "FairWalls") (T := TX7) (N := 6) (n := 6) hts inTX7 (tb_at hts 25 (by decide +kernel))
  obtain ⟨c8, i8, h8⟩ := u_known (C := "FairWallsModel") (T := TX8) (N := 16) (n := 16) hts inTX8 (tb_at hts 1010 (by decide +kernel))
  refine ⟨(fun k => [c1, c1, c2, c3, c4, c5, c6, c7, c8].getD k c1, fun k => [i1, i1, i2, i3, i4, i5, i6, i7, i8].getD k i1), fun k q hq => ?_, fun k q h => by simp at h⟩
  match k, hq with
  | 0, hq => cases hq; exact h1
  | 1, hq => cases hq; exact h1
  | 2, hq => cases hq; exact h2
  | 3, hq => cases hq; exact h3
  | 4, hq => cases hq; exact h4
  | 5, hq => cases hq; exact h5
  | 6, hq => cases hq; exact h6
  | 7, hq => cases hq; exact h7
  | 8, hq => cases hq; exact h8
  | k + 9, hq => simp [clsL] at hq
theorem cell_ext {cA : ClassId} {n : Nat} {f g : Nat → Option Nat} (h : ∀ j, j < n → f j = g j) : vp_cell cA (n, .inr (.inr (.inr (.inr f)))) = vp_cell cA (n, .inr (.inr (.inr (.inr g)))) := by
  show arrV cA n (fun j => va_rf (f j)) = arrV cA n (fun j => va_rf (g j))
  have e : (fun j : Fin n => va_rf (f j.val)) = (fun j : Fin n => va_rf (g j.val)) := by
    funext j
    rw [h j.val j.isLt]
  unfold arrV
  rw [e]
def FR (i k : Nat) : Prop := (k < nF (knd i) ∧ isR (knd i) k = true) ∨ (knd i = 14 ∧ k < alen i)
theorem ent'_c {ad ad' : Nat → Nat} {aC aC' : Nat → ClassId} {h : HP} {i : Nat} (he : aC i = aC' i) (h1 : ∀ k, FR i k → ad (fld i k) = ad' (fld i k)) : ent' ad aC h i = ent' ad' aC' h i := by
  unfold ent'
  by_cases hk : knd i = 14
  · rw [if_pos hk, if_pos hk, he]
    have e : (fun j => if j < alen i then some (ad (fld i j)) else none) = (fun j => if j < alen i then some (ad' (fld i j)) else none) := by
      funext j
      by_cases hj : j < alen i
      · rw [if_pos hj, if_pos hj, h1 j (Or.inr ⟨hk, hj⟩)]
      · rw [if_neg hj, if_neg hj]
    rw [e]
  · rw [if_neg hk, if_neg hk]
    unfold ent
    by_cases h10 : knd i < 10
    · rw [if_pos h10, if_pos h10]
      have e : (List.range (nF (knd i))).map (fun k => if isR (knd i) k = true then Value.ref (ad (fld i k)) else .int (h i k)) = (List.range (nF (knd i))).map (fun k => if isR (knd i) k = true then Value.ref (ad' (fld i k)) else .int (h i k)) := by
        refine List.map_congr_left (fun k hkm => ?_)
        by_cases hr : isR (knd i) k = true
        · rw [if_pos hr, if_pos hr, h1 k (Or.inl ⟨List.mem_range.mp hkm, hr⟩)]
        · rw [if_neg hr, if_neg hr]
      rw [e]
    · simp only [h10, hk, if_false, he]
theorem wo_c {ord : List Nat} {ad ad' : Nat → Nat} {aC aC' : Nat → ClassId} (h : ∀ i ∈ ord, ad i = ad' i ∧ aC i = aC' i ∧ ∀ k, FR i k → ad (fld i k) = ad' (fld i k)) : wo ord ad aC = wo ord ad' aC' := by
  unfold wo
  refine List.map_congr_left (fun i hi => ?_)
  obtain ⟨h1, h2, h3⟩ := h i hi
  rw [h1, ent'_c h2 h3]
theorem FR_le : ∀ i, i < 212 → nF (knd i) ≤ 16 ∧ (knd i = 14 → alen i ≤ 16) := by decide +kernel
theorem FR_F : ∀ i, i < 200 → ∀ k, k < 16 → (k < nF (knd i) ∧ isR (knd i) k = true) ∨ (knd i = 14 ∧ k < alen i) → fld i k < 200 := by decide +kernel
theorem FR_M : ∀ i, 200 ≤ i ∧ i < 211 → ∀ k, k < 16 → (k < nF (knd i) ∧ isR (knd i) k = true) ∨ (knd i = 14 ∧ k < alen i) → 200 ≤ fld i k ∧ fld i k < 211 := by
  intro i ⟨h1, h2⟩
  rcases (by omega : i = 200 ∨ i = 201 ∨ i = 202 ∨ i = 203 ∨ i = 204 ∨ i = 205 ∨ i = 206 ∨ i = 207 ∨ i = 208 ∨ i = 209 ∨ i = 210) with rfl | rfl | rfl | rfl | rfl | rfl | rfl | rfl | rfl | rfl | rfl <;> decide +kernel
theorem FR_k {i k : Nat} (hi : i < 212) (h : FR i k) : k < 16 := by
  obtain ⟨h1, h2⟩ := FR_le i hi
  rcases h with h | h
  · omega
  · have := h2 h.1
    omega
def adA (a1 a2 : Nat → Nat) (q b : Nat) (a0 : Nat → Nat) : Nat → Nat := fun i => if i < 200 then a1 i else if i < 211 then a2 i else if i = 211 then q else if i = 217 then b else a0 i
theorem adA_F {a1 a2 a0 : Nat → Nat} {q b i : Nat} (h : i < 200) : adA a1 a2 q b a0 i = a1 i := if_pos h
theorem adA_M {a1 a2 a0 : Nat → Nat} {q b i : Nat} (h1 : 200 ≤ i) (h2 : i < 211) : adA a1 a2 q b a0 i = a2 i := by
  unfold adA
  rw [if_neg (by omega), if_pos h2]
def ordA : List Nat := ordF ++ ordM ++ [211]
theorem ord_F : ∀ i ∈ ordF, i < 200 := by decide +kernel
theorem ord_M : ∀ i ∈ ordM, 200 ≤ i ∧ i < 211 := by decide +kernel
theorem wo_all {a1 a2 a0 : Nat → Nat} {c1 c2 : Nat → ClassId} {q b : Nat} {cq : ClassId} : (wo ordF a1 c1 ++ wo ordM a2 c2) ++ [(q, .inl (cq, 1, .inr (.inl (fun _ => 0))))] = wo ordA (adA a1 a2 q b a0) (adA c1 c2 cq 0 (fun _ => 0)) := by
  unfold ordA
  rw [wo_app, wo_app]
  have e1 : wo ordF a1 c1 = wo ordF (adA a1 a2 q b a0) (adA c1 c2 cq 0 (fun _ => 0)) := by
    refine wo_c (fun i hi => ?_)
    have h := ord_F i hi
    exact ⟨(adA_F h).symm, (adA_F h).symm, fun k hk => (adA_F (FR_F i h k (FR_k (by omega) hk) hk)).symm⟩
  have e2 : wo ordM a2 c2 = wo ordM (adA a1 a2 q b a0) (adA c1 c2 cq 0 (fun _ => 0)) := by
    refine wo_c (fun i hi => ?_)
    have h := ord_M i hi
    refine ⟨(adA_M h.1 h.2).symm, (adA_M h.1 h.2).symm, fun k hk => ?_⟩
    have z := FR_M i h k (FR_k (by omega) hk) hk
    exact (adA_M z.1 z.2).symm
  have e3 : ent' (adA a1 a2 q b a0) (adA c1 c2 cq 0 (fun _ => 0)) hIni 211 = .inl (cq, 1, .inr (.inl (fun _ => 0))) := by
    unfold ent'
    rw [if_neg (by decide), ent_l (by decide)]
    rfl
  have e4 : wo [211] (adA a1 a2 q b a0) (adA c1 c2 cq 0 (fun _ => 0)) = [(q, .inl (cq, 1, .inr (.inl (fun _ => 0))))] := by
    show [(q, ent' (adA a1 a2 q b a0) (adA c1 c2 cq 0 (fun _ => 0)) hIni 211)] = _
    rw [e3]
  rw [e1, e2, e4]
theorem ordA_all : ∀ i, i < 212 → i ∈ ordA := by decide +kernel
theorem world_of {D : va_G} {H : Heap} {A : Nat → Prop} {ad : Nat → Nat} {aC : Nat → ClassId} (h : va_P D clsL (wo ordA ad aC) H) (hD : va_D A (wo ordA ad aC)) : va_P D clsL (wl ad aC hIni) H ∧ Inj ad ∧ ∀ i, i < 212 → A (ad i) := by
  have hm : ∀ i, i < 212 → ∃ k : Nat, ordA[k]? = some i := fun i hi => List.getElem?_of_mem (ordA_all i hi)
  have hw : ∀ k i : Nat, ordA[k]? = some i → (wo ordA ad aC)[k]? = some (ad i, ent' ad aC hIni i) := by
    intro k i hk
    unfold wo
    rw [List.getElem?_map, hk]
    rfl
  refine ⟨fun k q hq => ?_, fun i j hi hj e => ?_, fun i hi => ?_⟩
  · obtain ⟨hi, rfl⟩ := wl_get hq
    obtain ⟨k2, hk2⟩ := hm _ hi
    have h1 := h k2 _ (hw _ _ hk2)
    by_cases h14 : knd k = 14
    · unfold ent' at h1
      rw [if_pos h14] at h1
      have h2 : H[ad k]? = some (vp_cell (aC k) (alen k, .inr (.inr (.inr (.inr (fun j => if j < alen k then some (ad (fld k j)) else none)))))) := h1
      rw [ent_q h14]
      show H[ad k]? = some (vp_cell (aC k) (alen k, .inr (.inr (.inr (.inr (fun j => some (ad (fld k j))))))))
      rw [h2]
      congr 1
      exact cell_ext (fun j hj => by rw [if_pos hj])
    · unfold ent' at h1
      rw [if_neg h14] at h1
      exact h1
  · obtain ⟨k1, h1⟩ := hm i hi
    obtain ⟨k2, h2⟩ := hm j hj
    have e2 := hD.1 k1 k2 _ _ (hw _ _ h1) (hw _ _ h2) e
    subst e2
    rw [h1] at h2
    exact Option.some.inj h2
  · obtain ⟨k, hk⟩ := hm i hi
    exact hD.2 k _ (hw _ _ hk)
theorem go_start (C0 : lw_At p s m meth c b L xs) (kk : ∀ (D : va_G) (ad : Nat → Nat) (aC : Nat → ClassId), Inj ad → Go l D ad aC room_1 (QL ad L xs) m_Q_law 23 [some (.ref 217), some (.ref 180), some (.ref 200), some (.ref 211), some (.int 0), none, none] [] hIni 212 8185) : W p l e room_1 s m #[Value.ref b] below meth c s.heap [] 0 0 (lw_Z below #[Value.ref b] s) (entryFrame m ([Value.ref b] : List Value).toArray 7) := by
  have C1 := C0
  obtain ⟨hx, hb, hr, hml, hown, hts, hX, hbl, hlocks, hgv⟩ := C0
  obtain ⟨a0, hev⟩ := ev_start C1
  obtain ⟨D, hK⟩ := kn_start hts
  have hGT : ∀ w ∈ GT, w.before #[Value.ref b] s = true := fun w hw => hts w (List.mem_filter.mp hw).1
  have hA : ∀ q : Nat, s.heap.size ≤ q → (fun q : Nat => s.heap.size ≤ q) q := fun q h => h
  have F : FK a0 m_Q_law p s m #[Value.ref b] meth c (fun q : Nat => s.heap.size ≤ q) := ⟨hx, hb, hr, hml, hown, hGT, hlocks, hev, hA, fun h => absurd h (by decide)⟩
  have hS : va_S (fun q : Nat => s.heap.size ≤ q) s.heap s.heap [] := va_S.rf
  have hP : va_P D clsL [] s.heap := fun k q h => by simp at h
  have hD : va_D (fun q : Nat => s.heap.size ≤ q) [] := ⟨fun i j p q h => by simp at h, fun k q h => by simp at h⟩
  rw [lg_entry_eq]
  have hl := LV.entry aid [.ref b] (n := 7) (Nat.le_of_ble_eq_true rfl)
  have e1 : ([Value.ref b]).map (cv aid) = [.ref b] := rfl
  rw [e1] at hl
  generalize (lg_sl ([.ref b]) ++ List.replicate (7 - (lg_sl ([.ref b])).length) Slot.unset).toArray = cs at hl ⊢
  have hl : LV aid cs m_Q_law.mL [some (.ref b), none, none, none, none, none, none] := hl
  refine k_newI (M := m_Q_law) (ws := []) (rest := []) (ix := 8) (idx := 99) (ci := 7) (N := 6) (C := "FairWalls") (T := TX7) (fs := [.null, .null, .null, .null, .null, .null]) (fun q => c_F_init l D a0 q) F hl (gdT inTX7 gdTX7) tyX7 tyX7_ok (gtb 24 (by decide +kernel) (by decide +kernel)) (gtb 25 (by decide +kernel) (by decide +kernel)) (gtb 1 (by decide +kernel) (by decide +kernel)) rfl (fun j hj => by rcases (by omega : j = 0 ∨ j = 1 ∨ j = 2 ∨ j = 3 ∨ j = 4 ∨ j = 5) with rfl | rfl | rfl | rfl | rfl | rfl <;> rfl) (Or.inl ⟨gtb 26 (by decide +kernel) (by decide +kernel), iw_F_init, cw_F_init, rfl, by decide +kernel, by decide +kernel⟩) rfl rfl nw_F_init hK hP hD hS (by decide +kernel) (by decide +kernel) (by decide +kernel) (Nat.le_of_ble_eq_true rfl) (Nat.le_of_ble_eq_true rfl) ⟨⟨Nat.le_of_ble_eq_true rfl, Nat.le_of_ble_eq_true rfl⟩, ⟨Nat.le_of_ble_eq_true rfl, Nat.le_of_ble_eq_true rfl⟩⟩ (Nat.le_of_ble_eq_true rfl) (fun q u H locs hu hK hP hD hS => ?_)
  obtain ⟨x1, y1⟩ := u
  obtain ⟨a1, c1, rfl, rfl, h1⟩ := hu
  refine k_run (pc' := 8) (st := [.ref (a1 180)]) [.astore_n 1] F.1 F.2.1 (by decide +kernel) rfl rfl hl rfl (fun cs hl => ?_)
  replace hP : va_P D clsL (wo ordF a1 c1) H := hP
  replace hD : va_D (fun q : Nat => s.heap.size ≤ q) (wo ordF a1 c1) := hD
  replace hK : va_K D clsL y1 s := hK
  refine k_newI (M := m_Q_law) (ws := (wo ordF a1 c1)) (rest := []) (ix := 100) (idx := 102) (ci := 8) (N := 16) (C := "FairWallsModel") (T := TX8) (fs := [.int 0, .null, .null, .null, .null, .int 0, .null, .null, .null, .null, .null, .null, .int 0, .int 0, .int 0, .int 0]) (fun q => c_M_init l D a0 q) F hl (gdT inTX8 gdTX8) tyX8 tyX8_ok (gtb 1009 (by decide +kernel) (by decide +kernel)) (gtb 1010 (by decide +kernel) (by decide +kernel)) (gtb 10 (by decide +kernel) (by decide +kernel)) rfl (fun j hj => by rcases (by omega : j = 0 ∨ j = 1 ∨ j = 2 ∨ j = 3 ∨ j = 4 ∨ j = 5 ∨ j = 6 ∨ j = 7 ∨ j = 8 ∨ j = 9 ∨ j = 10 ∨ j = 11 ∨ j = 12 ∨ j = 13 ∨ j = 14 ∨ j = 15) with rfl | rfl | rfl | rfl | rfl | rfl | rfl | rfl | rfl | rfl | rfl | rfl | rfl | rfl | rfl | rfl <;> rfl) (Or.inl ⟨gtb 1011 (by decide +kernel) (by decide +kernel), iw_M_init, cw_M_init, rfl, by decide +kernel, by decide +kernel⟩) rfl rfl nw_M_init hK hP hD hS (by decide +kernel) (by decide +kernel) (by decide +kernel) (Nat.le_of_ble_eq_true rfl) (Nat.le_of_ble_eq_true rfl) ⟨⟨Nat.le_of_ble_eq_true rfl, Nat.le_of_ble_eq_true rfl⟩, ⟨Nat.le_of_ble_eq_true rfl, Nat.le_of_ble_eq_true rfl⟩⟩ (Nat.le_of_ble_eq_true rfl) (fun q u H locs hu hK hP hD hS => ?_)
  obtain ⟨x2, y2⟩ := u
  obtain ⟨a2, c2, rfl, rfl, h2⟩ := hu
  refine k_run (pc' := 17) (st := [.ref (a2 200)]) [.astore_n 2, .iconst 1] F.1 F.2.1 (by decide +kernel) rfl rfl hl rfl (fun cs hl => ?_)
  replace hP : va_P D clsL (wo ordF a1 c1 ++ wo ordM a2 c2) H := hP
  replace hD : va_D (fun q : Nat => s.heap.size ≤ q) (wo ordF a1 c1 ++ wo ordM a2 c2) := hD
  replace hK : va_K D clsL (y1 ++ y2) s := hK
  refine va_newa (atype := .long) (ty := .long) (N' := 1) (a0 := (1, .inr (.inl (fun _ => 0)))) F.1 F.2.1 (hGT _ ac_long) rfl hK hP hD hS hA (fun cA => rfl) (by decide) rfl (by decide) (Nat.le_of_ble_eq_true rfl) (Nat.le_of_ble_eq_true rfl) (by decide +kernel) (fun q cq H hK hP hD hS => ?_)
  refine k_run (pc' := 23) (st := [.ref q]) [.astore_n 3, .iconst 0, .istore 4] F.1 F.2.1 (by decide +kernel) rfl rfl hl rfl (fun cs hl => ?_)
  rw [wo_all (b := b) (a0 := a0)] at hP hD
  obtain ⟨w1, w2, w3⟩ := world_of hP hD
  have hmem : ∀ i, i < 212 → 10 ≤ knd i → (adA c1 c2 cq 0 (fun _ => 0) i, aty (knd i)) ∈ (y1 ++ y2) ++ [(cq, FieldType.long)] := by
    intro i hi hk
    rcases (by omega : i < 200 ∨ (200 ≤ i ∧ i < 211) ∨ i = 211) with h | h | h
    · rw [adA_F h]
      exact List.mem_append_left _ (List.mem_append_left _ (h1 i ((by decide +kernel : ∀ i, i < 200 → i ∈ ordF) i h) hk))
    · rw [adA_M h.1 h.2]
      refine List.mem_append_left _ (List.mem_append_right _ (h2 i ?_ hk))
      rcases (by omega : i = 200 ∨ i = 201 ∨ i = 202 ∨ i = 203 ∨ i = 204 ∨ i = 205 ∨ i = 206 ∨ i = 207 ∨ i = 208 ∨ i = 209 ∨ i = 210) with rfl | rfl | rfl | rfl | rfl | rfl | rfl | rfl | rfl | rfl | rfl <;> decide
    · subst h
      exact List.mem_append_right _ (List.mem_singleton.mpr rfl)
  have hKK : KK D (adA c1 c2 cq 0 (fun _ => 0)) s := ⟨hK.mem (fun q hq => nomatch hq), fun i hi hk => by
    obtain ⟨j, hj⟩ := List.getElem?_of_mem (hmem i hi hk)
    exact hK.2 j _ hj⟩
  have hEv : Ev (adA a1 a2 q b a0) (AA (adA a1 a2 q b a0) s.heap.size) s s.heap := by
    refine Ev.narrow (A := fun q : Nat => s.heap.size ≤ q) (Ev.ad (ad := a0) (fun i g1 g2 => ?_) hev.1) (fun z hz => ?_)
    · unfold adA
      rw [if_neg (by omega), if_neg (by omega), if_neg (by omega), if_neg (by omega)]
    · rcases hz with ⟨i, hi, rfl⟩ | hz
      · exact w3 i hi
      · exact hz
  have hS' : va_S (AA (adA a1 a2 q b a0) s.heap.size) s.heap H locs := ⟨hS.1, fun z g1 g2 => hS.2.1 z g1 (fun g3 => g2 (Or.inr g3)), fun z hz => Or.inr (hS.2.2 z hz)⟩
  have hg := kk D (adA a1 a2 q b a0) (adA c1 c2 cq 0 (fun _ => 0)) w2 p e s m #[Value.ref b] below meth c H locs cs ⟨hx, hb, hr, hml, hown, hGT, fun h => absurd h (by decide), hlocks, hEv⟩ hS' ⟨w1, hKK⟩ hl
  exact W_mono (fun t ht => ht ⟨rfl, hX, hbl, w3⟩) hg
end WORLD
