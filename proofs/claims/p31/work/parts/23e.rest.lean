/-! undo, the slots, the text, load; the start -/
section REST
variable {h : HP} {z : Nat → Int} {A : (Nat → Bool) × (Nat → Nat → Int) × (Nat → Int) × Nat} {B : Int} {ys ks : Nat → Nat → Int} {c n : Nat} {kb : Nat → Bool} {t : Nat → Int}
theorem k_undo_s (I : CI B h (z, ys, c, A)) (c0 : c = 0) : f_F_undo h 180 = some (.inr "java/lang/IllegalStateException", h) := by
  obtain ⟨⟨x, PI⟩, -⟩ := I.2.1
  have p4 : h 192 2 = iI c := PI.2.2.2.1
  have p1 : c ≤ 14 := PI.1
  show f_F_undo h 180 = some (.inr "java/lang/IllegalStateException", h)
  unfold f_F_undo f_P_count
  rw [f02, p4, Option.bind_some, lI0, tLe (by omega) (by omega) (by omega) (by omega), if_pos (by omega), f_F_undo_15, if_pos lI0.symm]
theorem k_undo (I : CI B h (z, ys, c, A)) (c0 : ¬ c = 0) : ∃ h2, f_F_undo h 180 = some (.inl (some (.int (iI ((c - 1 : Nat) : Int)))), h2) ∧ CI B h2 (ys (c - 1), ys, c - 1, A) := by
  have RA : RepA h 182 0 184 z := I.1.1
  obtain ⟨⟨x, PI⟩, PO⟩ := I.2.1
  have PI : PastC h ys c x := PI
  have PO : ∀ j : Nat, j < c → OKz B (ys j) := PO
  obtain ⟨p1, p2, p3, p4, p6⟩ := id PI
  obtain ⟨S, R, RP, F⟩ := id RA
  obtain ⟨k, hk⟩ : ∃ k, k = (x + 13) % 14 := ⟨_, rfl⟩
  have hk14 : k < 14 := by omega
  have K1 := PO (c - 1) (by omega)
  obtain ⟨j3, j4⟩ := p6 (c - 1) (by omega)
  have ek : (x + 14 - c + (c - 1)) % 14 = k := by omega
  rw [ek] at j3 j4
  have ekk : (iI (k : Int)).toNatClampNeg = k := by rw [iI_cl (by omega) (by omega)]; omega
  have fr7 : ∀ i, i ≠ 192 → (hset (hset h 192 1 (iI k)) 192 2 (iI ((c - 1 : Nat) : Int))) i = h i := fun i hi => by rw [hset_n _ _ _ hi, hset_n _ _ _ hi]
  obtain ⟨h8, g1, g2, g3, g4⟩ := a_become (b' := 20 + 10 * k) S (bsp hk14) (by omega) (j3.fr (h' := hset (hset h 192 1 (iI k)) 192 2 (iI ((c - 1 : Nat) : Int))) (fun i i1 i2 => fr7 i (by omega))) K1.1
  have e8 : ∀ i, ¬ own 0 184 i → i ≠ 192 → h8 i = h i := fun i n1 n2 => by rw [g4 i n1, fr7 i n2]
  have e192 : h8 192 = (hset (hset h 192 1 (iI k)) 192 2 (iI ((c - 1 : Nat) : Int))) 192 := g4 192 (nown9 _ (by decide) (by decide))
  have emax : f_J_max (hset h 192 1 (iI k)) (iI c - 1) 0 = some (iI ((c - 1 : Nat) : Int)) := by
    unfold f_J_max
    rw [lI1, iI_sub, lI0, tLt (by omega) (by omega) (by omega) (by omega), if_neg (by omega), show (c : Int) - 1 = ((c - 1 : Nat) : Int) by omega]
  have e2 : hset h 192 1 (iI k) 192 2 = iI c := by rw [hset_s, upd_n _ _ (by decide)]; exact p4
  have fh : ∀ i, i ≠ 192 → ¬ i < 10 → ¬ (185 ≤ i ∧ i ≤ 187) → h8 i = h i := fun i n4 n5 n6 => e8 i (nown9 i n5 n6) n4
  refine ⟨h8, ?_, ⟨g2, ?_, K1⟩, ⟨⟨k, ⟨(by show c - 1 ≤ 14; omega), by omega, ?_, ?_, fun j hj => ?_⟩⟩, fun j hj => PO j (by have hj : j < c - 1 := hj; omega)⟩, SlC.fr I.2.2.1 (fun i hi => fh i (by omega) (by omega) (by omega)), TxC.fr I.2.2.2 (by rw [fh 197 (by omega) (by omega) (by omega)]) (fh 198 (by omega) (by omega) (by omega))⟩
  · show f_F_undo h 180 = _
    unfold f_F_undo f_P_count
    rw [f02, p4, Option.bind_some, lI0, tLe (by omega) (by omega) (by omega) (by omega), if_neg (by omega), f_F_undo_15, if_neg (by decide)]
    unfold f_P_takeLast
    rw [f02, p3, flm14m p2, ← hk, Option.bind_some, Option.bind_some, e2, emax, Option.bind_some, Option.bind_some]
    have e71 : (hset (hset h 192 1 (iI k)) 192 2 (iI ((c - 1 : Nat) : Int))) 192 1 = iI k := by rw [hset_s, upd_n _ _ (by decide), hset_s, upd_s]
    rw [e71, iI_ib (by omega) (by omega) (by omega), if_pos rfl, ekk, fldp, Option.bind_some]
    dsimp only
    rw [knd6 (bsp hk14), if_pos rfl, f0, g1, Option.bind_some, f_P_count, e192, hset_s, upd_s, Option.bind_some]
  · show h8 0 13 = iI (ys (c - 1) 188)
    rw [g3, fr7 _ (by omega)]
    exact j4
  · show h8 192 1 = iI k
    rw [e192, hset_s, upd_n _ _ (by decide), hset_s, upd_s]
  · show h8 192 2 = iI ((c - 1 : Nat) : Int)
    rw [e192, hset_s, upd_s]
  · have hj : j < c - 1 := hj
    have q := p6 j (by omega)
    show RepS h8 (20 + 10 * ((k + 14 - (c - 1) + j) % 14)) (ys j) ∧ h8 (20 + 10 * ((k + 14 - (c - 1) + j) % 14)) 13 = iI (ys j 188)
    rw [show (k + 14 - (c - 1) + j) % 14 = (x + 14 - c + j) % 14 by omega]
    refine ⟨q.1.fr (fun i i1 i2 => fh i (by omega) (by omega) (by omega)), ?_⟩
    rw [fh _ (by omega) (by omega) (by omega)]
    exact q.2
theorem k_save_i {A : (Nat → Nat → Int) × Nat × (Nat → Bool) × (Nat → Nat → Int) × (Nat → Int) × Nat} (I : CI B h (z, A)) {x : Int} (hx : InR x) (c : ¬ (0 ≤ x ∧ x ≤ 1)) : f_F_save h 180 (iI x) = some (.inr "java/lang/IndexOutOfBoundsException", h) := by
  have r := in32 h hx ⟨by decide, by decide⟩ ⟨by decide, by decide⟩ lI0 lI1
  rw [if_neg c] at r
  unfold f_F_save
  rw [r, Option.bind_some, if_pos rfl]
theorem k_save (I : CI B h (z, ys, c, kb, ks, t, n)) {s : Nat} (hs : s < 2) : ∃ h2, f_F_save h 180 (iI s) = some (.inl (some (.int (iI (z 186)))), h2) ∧ CI B h2 (z, ys, c, (fun k => if k = s then true else kb k), (fun k => if k = s then z else ks k), t, n) := by
  have RA : RepA h 182 0 184 z := I.1.1
  have h13 : h 0 13 = iI (z 188) := I.1.2.1
  have K : OKz B z := I.1.2.2
  obtain ⟨S, R, RP, F⟩ := id RA
  have r := in32 h (v := (s : Int)) (inr_nat (by omega)) ⟨by decide, by decide⟩ ⟨by decide, by decide⟩ lI0 lI1
  rw [if_pos (by omega)] at r
  have cs : (iI (s : Int)).toNatClampNeg = s := by rw [iI_cl (by omega) (by omega)]; omega
  obtain ⟨h1, g1, g2, g3, g4⟩ := s_copy (b := 0) (b' := 160 + 10 * s) ⟨by decide, by decide⟩ (bss hs) (by omega) R
  have e186 : (hset h1 196 s 1) 0 11 = iI (z 186) := by rw [hset_n _ _ _ (by decide), g4 0 (by omega)]; exact R.1.2.2.1
  have fh : ∀ i, i ≠ 196 → ¬ (160 + 10 * s ≤ i ∧ i < 160 + 10 * s + 10) → (hset h1 196 s 1) i = h i := fun i n1 n6 => by rw [hset_n _ _ _ n1, g4 i n6]
  have o : ∀ i, ¬ (160 ≤ i ∧ i < 180) → ¬ (160 + 10 * s ≤ i ∧ i < 160 + 10 * s + 10) := fun i hi => by omega
  refine ⟨hset h1 196 s 1, ?_, MnC.fr I.1 (fun i hi => fh i (by omega) (o i (by omega))), PsC.fr I.2.1 (fun i hi => fh i (by omega) (o i (by omega))), fun k hk => ?_, TxC.fr I.2.2.2 (by rw [fh 197 (by omega) (o _ (by omega))]) (fh 198 (by omega) (o _ (by omega)))⟩
  · show f_F_save h 180 (iI s) = _
    unfold f_F_save f_L_keep
    rw [r, Option.bind_some, if_neg (by decide), Option.bind_some, if_neg (by decide), iI_ib (by omega) (by omega) (by omega), if_pos rfl, cs, f03, f00, fL0, g1, Option.bind_some, if_pos rfl, fL1, Option.bind_some, Option.bind_some, e186]
  · show (hset h1 196 s 1) 196 k = (if (if k = s then true else kb k) = true then 1 else 0) ∧ ((if k = s then true else kb k) = true → OKz B (if k = s then z else ks k) ∧ RepS (hset h1 196 s 1) (160 + 10 * k) (if k = s then z else ks k) ∧ (hset h1 196 s 1) (160 + 10 * k) 13 = iI ((if k = s then z else ks k) 188))
    by_cases q : k = s
    · subst q
      rw [if_pos rfl, if_pos rfl, if_pos rfl, hset_s, upd_s]
      refine ⟨rfl, fun _ => ⟨K, g2.fr (fun i a1 a2 => hset_n _ _ _ (by omega)), ?_⟩⟩
      rw [hset_n _ _ _ (by omega), g3]
      exact h13
    · obtain ⟨j1, j2⟩ := I.2.2.1 k hk
      have j1 : h 196 k = (if kb k = true then 1 else 0) := j1
      have j2 : kb k = true → OKz B (ks k) ∧ RepS h (160 + 10 * k) (ks k) ∧ h (160 + 10 * k) 13 = iI (ks k 188) := j2
      rw [if_neg q, if_neg q, hset_s, upd_n _ _ q, g4 196 (by omega)]
      refine ⟨j1, fun q2 => ?_⟩
      obtain ⟨k1, k2, k3⟩ := j2 q2
      refine ⟨k1, k2.fr (fun i a1 a2 => fh i (by omega) (by omega)), ?_⟩
      rw [fh _ (by omega) (by omega)]
      exact k3
theorem k_restore_i {A : (Nat → Nat → Int) × Nat × (Nat → Bool) × (Nat → Nat → Int) × (Nat → Int) × Nat} (I : CI B h (z, A)) {x : Int} (hx : InR x) (c : ¬ (0 ≤ x ∧ x ≤ 1)) : f_F_restore h 180 (iI x) = some (.inr "java/lang/IndexOutOfBoundsException", h) := by
  have r := in32 h hx ⟨by decide, by decide⟩ ⟨by decide, by decide⟩ lI0 lI1
  rw [if_neg c] at r
  unfold f_F_restore
  rw [r, Option.bind_some, if_pos rfl]
theorem k_restore_s (I : CI B h (z, ys, c, kb, ks, t, n)) {s : Nat} (hs : s < 2) (c0 : ¬ kb s = true) : f_F_restore h 180 (iI s) = some (.inr "java/lang/IllegalStateException", h) := by
  have r := in32 h (v := (s : Int)) (inr_nat (by omega)) ⟨by decide, by decide⟩ ⟨by decide, by decide⟩ lI0 lI1
  rw [if_pos (by omega)] at r
  have cs : (iI (s : Int)).toNatClampNeg = s := by rw [iI_cl (by omega) (by omega)]; omega
  have j1 : h 196 s = (if kb s = true then 1 else 0) := (I.2.2.1 s hs).1
  rw [if_neg c0] at j1
  unfold f_F_restore f_L_isFilled
  rw [r, Option.bind_some, if_neg (by decide), Option.bind_some, if_neg (by decide), iI_ib (by omega) (by omega) (by omega), if_pos rfl, f03, fL1, cs, if_pos j1, Option.bind_some, if_pos rfl]
theorem k_restore (I : CI B h (z, ys, c, kb, ks, t, n)) {s : Nat} (hs : s < 2) (c0 : kb s = true) : ∃ h2, f_F_restore h 180 (iI s) = some (.inl (some (.int (iI (ks s 186)))), h2) ∧ CI B h2 (ks s, ys, 0, kb, ks, t, n) := by
  have RA : RepA h 182 0 184 z := I.1.1
  obtain ⟨⟨y, PI⟩, -⟩ := I.2.1
  have PI : PastC h ys c y := PI
  obtain ⟨S, R, RP, F⟩ := id RA
  have r := in32 h (v := (s : Int)) (inr_nat (by omega)) ⟨by decide, by decide⟩ ⟨by decide, by decide⟩ lI0 lI1
  rw [if_pos (by omega)] at r
  have cs : (iI (s : Int)).toNatClampNeg = s := by rw [iI_cl (by omega) (by omega)]; omega
  have j1 : h 196 s = (if kb s = true then 1 else 0) := (I.2.2.1 s hs).1
  rw [if_pos c0] at j1
  have c1 : ¬ h 196 s = 0 := by rw [j1]; decide
  obtain ⟨q2, q3, q4⟩ : OKz B (ks s) ∧ RepS h (160 + 10 * s) (ks s) ∧ h (160 + 10 * s) 13 = iI (ks s 188) := (I.2.2.1 s hs).2 c0
  obtain ⟨h1, g1, g2, g3, g4⟩ := a_become (b' := 160 + 10 * s) S (bss hs) (by omega) q3 q2.1
  have e1 : ∀ i, ¬ i < 10 → ¬ (185 ≤ i ∧ i ≤ 187) → h1 i = h i := fun i n1 n2 => g4 i (nown9 i n1 n2)
  have e186 : (hset h1 192 2 0) 0 11 = iI (ks s 186) := by rw [hset_n _ _ _ (by decide)]; exact g2.2.1.1.2.2.1
  have fh : ∀ i, i ≠ 192 → ¬ i < 10 → ¬ (185 ≤ i ∧ i ≤ 187) → (hset h1 192 2 0) i = h i := fun i n1 n5 n6 => by rw [hset_n _ _ _ n1, e1 i n5 n6]
  have ck : f_L_kept h 194 (iI s) = some (160 + 10 * s) := by
    unfold f_L_kept
    rcases (by omega : s = 0 ∨ s = 1) with rfl | rfl
    · rw [if_pos (by decide)]; rfl
    · rw [if_neg (by decide)]; rfl
  refine ⟨hset h1 192 2 0, ?_, ⟨g2.fr (fun i hi => hset_n _ _ _ (by unfold own at hi; omega)), ?_, q2⟩, ⟨⟨y, ⟨Nat.zero_le _, PI.2.1, ?_, ?_, fun j hj => absurd hj (Nat.not_lt_zero j)⟩⟩, fun j hj => absurd hj (Nat.not_lt_zero j)⟩, SlC.fr I.2.2.1 (fun i hi => fh i (by omega) (by omega) (by omega)), TxC.fr I.2.2.2 (by rw [fh 197 (by omega) (by omega) (by omega)]) (fh 198 (by omega) (by omega) (by omega))⟩
  · show f_F_restore h 180 (iI s) = _
    unfold f_F_restore f_L_isFilled
    rw [r, Option.bind_some, if_neg (by decide), Option.bind_some, if_neg (by decide), iI_ib (by omega) (by omega) (by omega), if_pos rfl, f03, fL1, cs, if_neg c1, Option.bind_some, if_neg (by decide), ck, Option.bind_some, knd6 (bss hs), if_pos rfl, f0, g1, Option.bind_some, f_P_forget, f02, Option.bind_some, Option.bind_some, show fld 182 0 = 0 from rfl, e186]
  · show (hset h1 192 2 0) 0 13 = iI (ks s 188)
    rw [hset_n _ _ _ (by decide), g3]
    exact q4
  · show (hset h1 192 2 0) 192 1 = iI y
    rw [hset_s, upd_n _ _ (by decide), e1 192 (by decide) (by decide)]
    exact PI.2.2.1
  · show (hset h1 192 2 0) 192 2 = iI ((0 : Nat) : Int)
    rw [hset_s, upd_s]
    rfl
theorem k_append_a {A : (Nat → Nat → Int) × Nat × (Nat → Bool) × (Nat → Nat → Int) × (Nat → Int) × Nat} (I : CI B h (z, A)) {x : Int} (hx : InR x) (c : ¬ (0 ≤ x ∧ x ≤ 255)) : f_F_append h 180 (iI x) = some (.inr "java/lang/IllegalArgumentException", h) := by
  have r := in32 h hx ⟨by decide, by decide⟩ ⟨by decide, by decide⟩ lI0 lI255
  rw [if_neg c] at r
  unfold f_F_append
  rw [r, Option.bind_some, if_pos rfl]
theorem k_append (I : CI B h (z, ys, c, kb, ks, t, n)) {x : Int} (cx : 0 ≤ x ∧ x ≤ 255) (cn : ¬ n = 120) : ∃ h2, f_F_append h 180 (iI x) = some (.inl (some (.int (iI ((n : Int) + 1)))), h2) ∧ CI B h2 (z, ys, c, kb, ks, uI t n x, n + 1) := by
  have TI : TxC h t n := I.2.2.2
  obtain ⟨t1, t2, t4⟩ := id TI
  have r := in32 h (v := x) ⟨by omega, by omega⟩ ⟨by decide, by decide⟩ ⟨by decide, by decide⟩ lI0 lI255
  rw [if_pos cx] at r
  have ex : ∃ v : Fin 256, (v.val : Int) = x := ⟨⟨x.toNat, by omega⟩, by show ((x.toNat : Nat) : Int) = x; omega⟩
  obtain ⟨v, hv⟩ := ex
  have k1 := chr1 v
  have k2 := chr2 v
  rw [hv] at k1 k2
  have en : (iI (n : Int)).toNatClampNeg = n := by rw [iI_cl (by omega) (by omega)]; omega
  have q : ∀ i, i ≠ 197 → i ≠ 198 → (hset (hset h 198 n (iI x)) 197 2 (iI ((n : Int) + 1))) i = h i := fun i n1 n2 => by rw [hset_n _ _ _ n1, hset_n _ _ _ n2]
  refine ⟨hset (hset h 198 n (iI x)) 197 2 (iI ((n : Int) + 1)), ?_, MnC.fr I.1 (fun i hi => q i (by omega) (by omega)), PsC.fr I.2.1 (fun i hi => q i (by omega) (by omega)), SlC.fr I.2.2.1 (fun i hi => q i (by omega) (by omega)), ⟨by show n + 1 ≤ 120; omega, ?_, fun i hi => ?_⟩⟩
  · show f_F_append h 180 (iI x) = _
    unfold f_F_append f_T_size
    have e2 : hset h 198 n (iI x) 197 2 = iI n := by rw [hset_n _ _ _ (by decide)]; exact t2
    have e3 : (hset (hset h 198 n (iI x)) 197 2 (iI ((n : Int) + 1))) 197 2 = iI ((n : Int) + 1) := by rw [hset_s, upd_s]
    rw [r, Option.bind_some, if_neg (by decide), f04, t2, Option.bind_some, lI120, tLe (by omega) (by omega) (by omega) (by omega), if_neg (by omega), f_F_append_28, if_neg (by decide), k1, f_T_add, f04, t2]
    rw [lI0, lI120, tLt (by omega) (by omega) (by omega) (by omega), if_neg (by omega), tLe (by omega) (by omega) (by omega) (by omega), if_neg (by omega), iI_ib (by omega) (by omega) (by omega), if_pos rfl, k2, if_pos rfl, fT0, en, Option.bind_some, e2, lI1, iI_add, Option.bind_some, f_T_add_36, e3, Option.bind_some]
  · show (hset (hset h 198 n (iI x)) 197 2 (iI ((n : Int) + 1))) 197 2 = iI ((n + 1 : Nat) : Int)
    rw [hset_s, upd_s]
    rfl
  · have hi : i < n + 1 := hi
    show (0 ≤ uI t n x i ∧ uI t n x i ≤ 255) ∧ (hset (hset h 198 n (iI x)) 197 2 (iI ((n : Int) + 1))) 198 i = iI (uI t n x i)
    rw [hset_n _ _ _ (by decide), hset_s]
    by_cases e : i = n
    · subst e
      rw [uI_s, upd_s]
      exact ⟨cx, rfl⟩
    · rw [uI_n _ _ e, upd_n _ _ e]
      exact t4 i (by omega)
theorem k_clear (I : CI B h (z, ys, c, kb, ks, t, n)) : ∃ h2, f_F_clearText h 180 = some (iI n, h2) ∧ CI B h2 (z, ys, c, kb, ks, t, 0) := by
  have TI : TxC h t n := I.2.2.2
  obtain ⟨t1, t2, t4⟩ := id TI
  have q : ∀ i, i ≠ 197 → (hset h 197 2 0) i = h i := fun i n1 => hset_n _ _ _ n1
  refine ⟨hset h 197 2 0, ?_, MnC.fr I.1 (fun i hi => q i (by omega)), PsC.fr I.2.1 (fun i hi => q i (by omega)), SlC.fr I.2.2.1 (fun i hi => q i (by omega)), ⟨by show 0 ≤ 120; omega, ?_, fun i hi => absurd hi (Nat.not_lt_zero i)⟩⟩
  · unfold f_F_clearText f_T_empty
    rw [f04, Option.bind_some, Option.bind_some, t2]
  · show (hset h 197 2 0) 197 2 = iI ((0 : Nat) : Int)
    rw [hset_s, upd_s]
    rfl
theorem k_load_s {A : (Nat → Nat → Int) × Nat × (Nat → Bool) × (Nat → Nat → Int) × (Nat → Int) × Nat} (I : CI B h (z, A)) (c : ¬ errZ A.2.2.2.2.1 A.2.2.2.2.2 = -1) : ∃ h1, f_F_load h 180 = some (.inr "java/lang/IllegalStateException", h1) ∧ QF h h1 := by
  have TI : TxC h A.2.2.2.2.1 A.2.2.2.2.2 := I.2.2.2
  obtain ⟨h1, g1, g2, g3⟩ := c_err TI
  have hbE := err_b A.2.2.2.2.1 A.2.2.2.2.2 TI.b TI.1
  have q1 : QF h h1 := ⟨fun i i1 _ i3 => g2 i i3 (fun q => i1 (by unfold nImp; omega)), fun k k1 k2 => g3 k k1 k2, fun k _ _ _ _ => by rw [g2 200 (by decide) (by decide)]⟩
  have em : (-1 : Int32) = iI (-1) := by decide
  refine ⟨h1, ?_, q1⟩
  unfold f_F_load
  rw [f04, g1, Option.bind_some]
  dsimp only
  rw [em, tEq (by omega) (by omega) (by omega) (by omega), if_neg c, f_F_load_16, if_pos rfl]
theorem k_load (I : CI B h (z, ys, c, kb, ks, t, n)) (hB0 : 5040000 ≤ B) (c : errZ t n = -1) : ∃ h2, f_F_load h 180 = some (.inl (some (.int (iI (prs t n 120 1 0 zini).2.1))), h2) ∧ CI B h2 ((prs t n 120 1 0 zini).2.2, ys, 0, (fun _ => false), ks, t, n) := by
  have TI : TxC h t n := I.2.2.2
  obtain ⟨⟨y, PI⟩, -⟩ := I.2.1
  obtain ⟨h1, g1, g2, g3⟩ := c_err TI
  have hbE := err_b t n TI.b TI.1
  have tn1 : n ≤ 120 := TI.1
  obtain ⟨ha, a1, a2, a3, a4⟩ := a_startAnew (h := h1)
  have no : ∀ i, ¬ i < 10 → ¬ (185 ≤ i ∧ i ≤ 187) → ¬ own 0 184 i := no_own
  have nz : ¬ (n = 0) ∧ t 0 = 65 := by
    unfold errZ at c
    split at c
    · omega
    · split at c
      · rename_i c1 c2; exact ⟨c1, c2⟩
      · omega
  have hE : (prs t n 120 1 0 zini).1 = -1 := by
    unfold errZ at c
    rw [if_neg nz.1, if_pos nz.2] at c
    exact c
  have KP := (prs_ok (t := t) (n := n) 120 1 0 0 zini (zini_ok (Int.le_refl _)))
  have fb : ∀ i, ¬ own 0 184 i → i ≠ 192 → i ≠ 196 → i ≠ 197 → (hset (hset (hset (hset ha 192 2 0) 196 0 0) 196 1 0) 197 3 1) i = h1 i := fun i i0 i1 i2 i3 => by rw [hset_n _ _ _ i3, hset_n _ _ _ i2, hset_n _ _ _ i2, hset_n _ _ _ i1, a4 i i0]
  have eo : ∀ i, own 0 184 i → (hset (hset (hset (hset ha 192 2 0) 196 0 0) 196 1 0) 197 3 1) i = ha i := fun i i0 => by
    unfold own at i0
    rw [hset_n _ _ _ (by omega), hset_n _ _ _ (by omega), hset_n _ _ _ (by omega), hset_n _ _ _ (by omega)]
  have e197 : ∀ k, k ≠ 3 → (hset (hset (hset (hset ha 192 2 0) 196 0 0) 196 1 0) 197 3 1) 197 k = h1 197 k := fun k hk => by rw [hset_s, upd_n _ _ hk, hset_n _ _ _ (by decide), hset_n _ _ _ (by decide), hset_n _ _ _ (by decide), a4 197 (no _ (by decide) (by decide))]
  have Tb : TxC (hset (hset (hset (hset ha 192 2 0) 196 0 0) 196 1 0) 197 3 1) t n := TI.fr (by rw [e197 2 (by decide), g3 2 (by decide) (by decide)]) (by rw [fb 198 (no _ (by decide) (by decide)) (by decide) (by decide) (by decide), g2 198 (by decide) (by decide)])
  have h3b : (hset (hset (hset (hset ha 192 2 0) 196 0 0) 196 1 0) 197 3 1) 197 3 = iI ((1 : Nat) : Int) := by rw [hset_s, upd_s]; decide
  obtain ⟨hc, b1, b2, b3, b4, b5⟩ := c_load1 (t := t) (n := n) 120 0 1 4096 0 zini 0 _ (by omega) (by omega) (by omega) (by omega) (by omega) hE Tb h3b (a2.fr eo) (zini_ok (Int.le_refl _))
  have fc : ∀ i, ¬ i < 10 → ¬ (185 ≤ i ∧ i ≤ 187) → i ≠ 192 → i ≠ 196 → i ≠ 197 → i ≠ 199 → hc i = h i := fun i i1 i2 i3 i4 i5 i6 => by rw [b4 i (no i i1 i2) i5 i6, fb i (no i i1 i2) i3 i4 i5, g2 i i5 i6]
  have k197 : ∀ k, k ≠ 3 → k ≠ 4 → hc 197 k = h 197 k := fun k k1 k2 => by rw [b5 k k1 k2, e197 k k1, g3 k k1 k2]
  refine ⟨hc, ?_, ⟨b2, ?_, KP.1.mono (by omega)⟩, ⟨⟨y, ⟨Nat.zero_le _, PI.2.1, ?_, ?_, fun j hj => absurd hj (Nat.not_lt_zero j)⟩⟩, fun j hj => absurd hj (Nat.not_lt_zero j)⟩, fun s hs => ?_, TI.fr (k197 2 (by decide) (by decide)) (fc 198 (by decide) (by decide) (by decide) (by decide) (by decide) (by decide))⟩
  · show f_F_load h 180 = _
    have em : (-1 : Int32) = iI (-1) := by decide
    unfold f_F_load
    rw [f04, g1, Option.bind_some]
    dsimp only
    rw [em, tEq (by omega) (by omega) (by omega) (by omega), if_pos c, f_F_load_16, if_neg (by decide), f0, a1, Option.bind_some, f_P_forget, f02, Option.bind_some, Option.bind_some, f03, fset, Option.bind_some, f_T_goToCommands, f04, Option.bind_some, Option.bind_some, show (0 : Int32) = iI 0 from lI0]
    rw [lI0] at b1
    exact b1
  · show hc 0 13 = iI ((prs t n 120 1 0 zini).2.2 188)
    rw [b3, eo 0 (by unfold own; omega), a3, KP.2, zini_0 (by decide)]
  · show hc 192 1 = iI y
    rw [b4 192 (no _ (by decide) (by decide)) (by decide) (by decide), hset_n _ _ _ (by decide), hset_n _ _ _ (by decide), hset_n _ _ _ (by decide), hset_s, upd_n _ _ (by decide), a4 192 (no _ (by decide) (by decide)), g2 192 (by decide) (by decide)]
    exact PI.2.2.1
  · show hc 192 2 = iI ((0 : Nat) : Int)
    rw [b4 192 (no _ (by decide) (by decide)) (by decide) (by decide), hset_n _ _ _ (by decide), hset_n _ _ _ (by decide), hset_n _ _ _ (by decide), hset_s, upd_s]
    exact lI0
  · have e196 : hc 196 s = 0 := by
      rw [b4 196 (no _ (by decide) (by decide)) (by decide) (by decide), hset_n _ _ _ (by decide), hset_s]
      rcases (by omega : s = 0 ∨ s = 1) with rfl | rfl
      · rw [upd_n _ _ (by decide), hset_s, upd_s]
      · rw [upd_s]
    exact ⟨e196, fun q => absurd q Bool.false_ne_true⟩
/-- the start -/
def iniA : AS := (zini, fun _ => zini, 0, fun _ => false, fun _ => zini, fun _ => 0, 0)
theorem ci_ini : CI 5040000 hIni iniA := by
  have z1 : ∀ j, stF 1 j = 0 := fun j => by
    show (if j < 4 then (0 : Int32) else 0) = 0
    split <;> rfl
  have z2 : ∀ j, stF 2 j = 0 := fun j => by
    show (if j < 120 then (0 : Int32) else 0) = 0
    split <;> rfl
  have e185 : zini 185 = 0 := zini_0 (by decide)
  have R : RepS hIni 0 zini := by
    refine ⟨⟨?_, ?_, ?_, ?_⟩, fun w hw => ?_, fun w m hw hm => ?_, fun d k hd h2 hk => ?_, fun j hj => ?_⟩
    · rw [zini_0 (by decide)]; exact lI0
    · rw [zini_0 (by decide)]; exact lI0
    · rw [zini_0 (by decide)]; exact lI0
    · rw [zini_0 (by decide)]; exact lI0
    · rw [zini_0 (by omega)]
      show stF 1 w = iI 0
      rw [z1, lI0]
    · rw [zini_0 (by omega)]
      show stF 2 _ = iI 0
      rw [z2, lI0]
    · rw [e185] at h2; omega
    · rcases (by omega : j = 0 ∨ j = 1 ∨ j = 2 ∨ j = 3 ∨ j = 4 ∨ j = 5) with rfl | rfl | rfl | rfl | rfl | rfl <;> rfl
  have hsh : shareZ zini = (fun _ => 0, fun _ => 0, fun _ => -1) := by
    unfold shareZ
    rw [e185]
    rfl
  have RP : RepPw hIni 184 (shareZ zini) := by
    rw [hsh]
    exact ⟨fun i _ => lI0, fun d _ => lI0, fun d k _ _ hlt => by
      have q : (k : Int) < 0 := hlt
      omega⟩
  refine ⟨⟨⟨S2, R, RP, zini_wf⟩, ?_, zini_ok (by decide)⟩, ⟨⟨0, by decide, by decide, lI0, lI0, fun j hj => absurd hj (Nat.not_lt_zero j)⟩, fun j hj => absurd hj (Nat.not_lt_zero j)⟩, fun s hs => ⟨rfl, fun q => absurd q Bool.false_ne_true⟩, ⟨by decide, lI0, fun i hi => absurd hi (Nat.not_lt_zero i)⟩⟩
  show hIni 0 13 = iI (zini 188)
  rw [zini_0 (by decide)]
  exact lI0
end REST
