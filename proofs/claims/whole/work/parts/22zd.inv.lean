/-! what holds between calls, and what a call answers on both sides -/
def MainI (B : Int) (h : HP) (z : Nat → Int) : Prop := RepA h 182 0 184 z ∧ RepM h 201 z ∧ h 0 13 = iI (z 188) ∧ OKz B z
def PastI (B : Int) (h : HP) (ys : Nat → Nat → Int) (c x : Nat) : Prop := c ≤ 14 ∧ x ≤ 14 ∧ h 192 1 = iI x ∧ h 192 2 = iI c ∧ h 200 5 = iI c ∧ ∀ j : Nat, j < c → OKz B (ys j) ∧ (∀ m : Nat, m < 196 → h 204 (196 * j + m) = iI (ys j m)) ∧ RepS h (20 + 10 * ((x + 14 - c + j) % 14)) (ys j) ∧ h (20 + 10 * ((x + 14 - c + j) % 14)) 13 = iI (ys j 188)
def SlotI (B : Int) (h : HP) (ks : Nat → Nat → Int) : Prop := ∀ s : Nat, s < 2 → h 206 s = h 196 s ∧ (h 196 s = 0 ∨ (h 196 s = 1 ∧ OKz B (ks s) ∧ RepS h (160 + 10 * s) (ks s) ∧ h (160 + 10 * s) 13 = iI (ks s 188) ∧ ∀ m : Nat, m < 196 → h 205 (196 * s + m) = iI (ks s m)))
def TextI (h : HP) (t : Nat → Int) (n : Nat) : Prop := n ≤ 120 ∧ h 197 2 = iI n ∧ h 200 12 = iI n ∧ ∀ i : Nat, i < n → (0 ≤ t i ∧ t i ≤ 255) ∧ h 198 i = iI (t i) ∧ h 210 i = iI (t i)
def INV (B : Int) (h : HP) : Prop := (∃ z, MainI B h z) ∧ (∃ ys c x, PastI B h ys c x) ∧ (∃ ks, SlotI B h ks) ∧ ∃ t n, TextI h t n
def nImp (i : Nat) : Prop := (10 ≤ i ∧ i < 20) ∨ (189 ≤ i ∧ i ≤ 191) ∨ i = 181 ∨ i = 199 ∨ i = 202 ∨ i = 203 ∨ i = 207 ∨ i = 208 ∨ i = 209 ∨ i = 211
def QF (h h' : HP) : Prop := (∀ i, ¬ nImp i → i ≠ 200 → i ≠ 197 → h' i = h i) ∧ (∀ k, k ≠ 3 → k ≠ 4 → h' 197 k = h 197 k) ∧ ∀ k, k ≠ 0 → k ≠ 13 → k ≠ 14 → k ≠ 15 → h' 200 k = h 200 k
section INVS
variable {h h' g : HP} {a b p : Nat} {z : Nat → Int} {B : Int}
theorem RepPw.fr {s : Pw} (R : RepPw h p s) (e1 : h' (p + 1) = h (p + 1)) (e2 : h' (p + 2) = h (p + 2)) (e3 : h' (p + 3) = h (p + 3)) : RepPw h' p s := ⟨fun i hi => by rw [e1]; exact R.1 i hi, fun d hd => by rw [e3]; exact R.2.1 d hd, fun d k hd hk hlt => by rw [e2]; exact R.2.2 d k hd hk hlt⟩
theorem RepMw.fr {s : Pw} (R : RepMw h s) (e1 : h' 207 = h 207) (e2 : h' 208 = h 208) (e3 : h' 209 = h 209) : RepMw h' s := ⟨fun i hi => by rw [e1]; exact R.1 i hi, fun d hd => by rw [e2]; exact R.2.1 d hd, fun i hi => by rw [e3]; exact R.2.2 i hi⟩
theorem RepA.fr (RA : RepA h a b p z) (e : ∀ i, own b p i → h' i = h i) : RepA h' a b p z := by
  obtain ⟨S, R, RP, F⟩ := RA
  exact ⟨S, R.fr (fun i i1 i2 => e i (Or.inl ⟨i1, i2⟩)), RP.fr (e _ (Or.inr (by omega))) (e _ (Or.inr (by omega))) (e _ (Or.inr (by omega))), F⟩
theorem MainI.fr (I : MainI B h z) (e : ∀ i, (i < 10 ∨ (185 ≤ i ∧ i ≤ 187) ∨ i = 201) → h' i = h i) : MainI B h' z := by
  obtain ⟨i1, i2, i3, i4⟩ := I
  refine ⟨i1.fr (fun i hi => e i (by unfold own at hi; omega)), i2.fr (e 201 (by omega)), ?_, i4⟩
  rw [e 0 (by omega)]; exact i3
theorem PastI.fr {ys : Nat → Nat → Int} {c x : Nat} (I : PastI B h ys c x) (e : ∀ i, ((20 ≤ i ∧ i < 160) ∨ i = 192 ∨ i = 204) → h' i = h i) (e5 : h' 200 5 = h 200 5) : PastI B h' ys c x := by
  obtain ⟨i1, i2, i3, i4, i5, i6⟩ := I
  refine ⟨i1, i2, by rw [e 192 (by omega)]; exact i3, by rw [e 192 (by omega)]; exact i4, by rw [e5]; exact i5, fun j hj => ?_⟩
  obtain ⟨j1, j2, j3, j4⟩ := i6 j hj
  refine ⟨j1, fun m hm => by rw [e 204 (by omega)]; exact j2 m hm, j3.fr (fun i a1 a2 => e i (Or.inl (by omega))), ?_⟩
  rw [e _ (Or.inl (by omega))]; exact j4
theorem SlotI.fr {ks : Nat → Nat → Int} (I : SlotI B h ks) (e : ∀ i, ((160 ≤ i ∧ i < 180) ∨ i = 196 ∨ i = 205 ∨ i = 206) → h' i = h i) : SlotI B h' ks := by
  intro s hs
  obtain ⟨i1, i2⟩ := I s hs
  rw [e 206 (by omega), e 196 (by omega)]
  refine ⟨i1, ?_⟩
  rcases i2 with q | ⟨q1, q2, q3, q4, q5⟩
  · exact Or.inl q
  · refine Or.inr ⟨q1, q2, q3.fr (fun i a1 a2 => e i (Or.inl (by omega))), ?_, fun m hm => by rw [e 205 (by omega)]; exact q5 m hm⟩
    rw [e _ (Or.inl (by omega))]; exact q4
theorem TextI.fr {t : Nat → Int} {n : Nat} (I : TextI h t n) (e1 : h' 197 2 = h 197 2) (e2 : h' 200 12 = h 200 12) (e3 : h' 198 = h 198) (e4 : h' 210 = h 210) : TextI h' t n := by
  obtain ⟨i1, i2, i3, i4⟩ := I
  exact ⟨i1, by rw [e1]; exact i2, by rw [e2]; exact i3, fun i hi => by rw [e3, e4]; exact i4 i hi⟩
theorem QF.refl (h : HP) : QF h h := ⟨fun _ _ _ _ => rfl, fun _ _ _ => rfl, fun _ _ _ _ _ => rfl⟩
theorem QF.trans (q : QF h g) (r : QF g h') : QF h h' := ⟨fun i n1 n2 n3 => by rw [r.1 i n1 n2 n3, q.1 i n1 n2 n3], fun k n1 n2 => by rw [r.2.1 k n1 n2, q.2.1 k n1 n2], fun k n1 n2 n3 n4 => by rw [r.2.2 k n1 n2 n3 n4, q.2.2 k n1 n2 n3 n4]⟩
theorem QF.of (e : ∀ i, ¬ nImp i → h' i = h i) : QF h h' := ⟨fun i n _ _ => e i n, fun k _ _ => by rw [e 197 (by unfold nImp; omega)], fun k _ _ _ _ => by rw [e 200 (by unfold nImp; omega)]⟩
theorem QF.s0 (h : HP) (v : Int32) : QF h (hset h 200 0 v) := ⟨fun i _ n _ => hset_n _ _ _ n, fun k _ _ => by rw [hset_n _ _ _ (by decide)], fun k n _ _ _ => by rw [hset_s, upd_n _ _ n]⟩
theorem QF.out (h : HP) (v : Int32) : QF h (hset h 211 0 v) := QF.of (fun i hi => hset_n _ _ _ (fun q => hi (by unfold nImp; omega)))
theorem MainI.qf (I : MainI B h z) (q : QF h h') : MainI B h' z := I.fr (fun i hi => q.1 i (by unfold nImp; omega) (by omega) (by omega))
theorem INV.qf (I : INV B h) (q : QF h h') : INV B h' := by
  obtain ⟨⟨z, i1⟩, ⟨ys, c, x, i2⟩, ⟨ks, i3⟩, ⟨t, n, i4⟩⟩ := I
  exact ⟨⟨z, i1.qf q⟩, ⟨ys, c, x, i2.fr (fun i hi => q.1 i (by unfold nImp; omega) (by omega) (by omega)) (q.2.2 5 (by decide) (by decide) (by decide) (by decide))⟩, ⟨ks, i3.fr (fun i hi => q.1 i (by unfold nImp; omega) (by omega) (by omega))⟩, ⟨t, n, i4.fr (q.2.1 2 (by decide) (by decide)) (q.2.2 12 (by decide) (by decide) (by decide) (by decide)) (q.1 198 (by unfold nImp; omega) (by omega) (by omega)) (q.1 210 (by unfold nImp; omega) (by omega) (by omega))⟩⟩
theorem MainI.mono {B' : Int} (I : MainI B h z) (hB : B ≤ B') : MainI B' h z := ⟨I.1, I.2.1, I.2.2.1, I.2.2.2.mono hB⟩
theorem PastI.mono {B' : Int} {ys : Nat → Nat → Int} {c x : Nat} (I : PastI B h ys c x) (hB : B ≤ B') : PastI B' h ys c x := ⟨I.1, I.2.1, I.2.2.1, I.2.2.2.1, I.2.2.2.2.1, fun j hj => ⟨(I.2.2.2.2.2 j hj).1.mono hB, (I.2.2.2.2.2 j hj).2⟩⟩
theorem SlotI.mono {B' : Int} {ks : Nat → Nat → Int} (I : SlotI B h ks) (hB : B ≤ B') : SlotI B' h ks := fun s hs => ⟨(I s hs).1, (I s hs).2.elim Or.inl (fun q => Or.inr ⟨q.1, q.2.1.mono hB, q.2.2⟩)⟩
theorem INV.mono {B' : Int} (I : INV B h) (hB : B ≤ B') : INV B' h := by
  obtain ⟨⟨z, i1⟩, ⟨ys, c, x, i2⟩, ⟨ks, i3⟩, i4⟩ := I
  exact ⟨⟨z, i1.mono hB⟩, ⟨ys, c, x, i2.mono hB⟩, ⟨ks, i3.mono hB⟩, i4⟩
/-- one call on both sides -/
def Ans (B' : Int) (h : HP) (ES : List String) (fc : HP → Option (Res × HP)) (fm : HP → Option (Int32 × HP)) : Prop :=
  (∃ x h1 h2, fc h = some (.inl (some (.int x)), h1) ∧ fm (hset h1 211 0 x) = some (x, h2) ∧ h2 200 0 = 0 ∧ h2 211 0 = x ∧ INV B' h2) ∨
  (∃ E h1 j v h2, fc h = some (.inr E, h1) ∧ wrapR ES 211 (.inr E, h1) = some (j, h1) ∧ j ≠ 0 ∧ fm h1 = some (v, h2) ∧ h2 200 0 = j ∧ INV B' h2)
def QmA (g h' : HP) : Prop := h' 200 0 = 0 ∧ h' 211 = g 211 ∧ QF g h'
theorem QmA.of (e : ∀ i, i ≠ 202 → i ≠ 207 → i ≠ 208 → i ≠ 209 → h' i = hset g 200 0 0 i) : QmA g h' := by
  refine ⟨?_, ?_, ?_⟩
  · rw [e 200 (by decide) (by decide) (by decide) (by decide), hset_s, upd_s]
  · rw [e 211 (by decide) (by decide) (by decide) (by decide), hset_n _ _ _ (by decide)]
  · exact (QF.s0 g 0).trans (QF.of (fun i hi => e i (fun q => hi (by unfold nImp; omega)) (fun q => hi (by unfold nImp; omega)) (fun q => hi (by unfold nImp; omega)) (fun q => hi (by unfold nImp; omega))))
theorem Ans.q {ES : List String} {fc : HP → Option (Res × HP)} {fm : HP → Option (Int32 × HP)} {x : Int32} {h1 : HP} (I : INV B h) (c : fc h = some (.inl (some (.int x)), h1)) (q : QF h h1) (m : ∀ g, QF h g → ∃ h2, fm g = some (x, h2) ∧ QmA g h2) : Ans B h ES fc fm := by
  have qg : QF h (hset h1 211 0 x) := q.trans (QF.out h1 x)
  obtain ⟨h2, m1, m2, m3, m4⟩ := m _ qg
  refine Or.inl ⟨x, h1, h2, c, m1, m2, ?_, I.qf (qg.trans m4)⟩
  rw [m3, hset_s, upd_s]
theorem Ans.no {ES : List String} {fc : HP → Option (Res × HP)} {fm : HP → Option (Int32 × HP)} {E : String} {j v : Int32} (I : INV B h) (c : fc h = some (.inr E, h)) (w : wrapR ES 211 (.inr E, h) = some (j, h)) (hj : j ≠ 0) (m : fm h = some (v, hset h 200 0 j)) : Ans B h ES fc fm :=
  Or.inr ⟨E, h, j, v, _, c, w, hj, m, by rw [hset_s, upd_s], I.qf (QF.s0 h j)⟩
theorem Ans.mono {B' B'' : Int} {ES : List String} {fc : HP → Option (Res × HP)} {fm : HP → Option (Int32 × HP)} (A : Ans B' h ES fc fm) (hB : B' ≤ B'') : Ans B'' h ES fc fm := by
  rcases A with ⟨x, h1, h2, a1, a2, a3, a4, a5⟩ | ⟨E, h1, j, v, h2, a1, a2, a3, a4, a5, a6⟩
  · exact Or.inl ⟨x, h1, h2, a1, a2, a3, a4, a5.mono hB⟩
  · exact Or.inr ⟨E, h1, j, v, h2, a1, a2, a3, a4, a5, a6.mono hB⟩
theorem Ans.law {ES : List String} {fc : HP → Option (Res × HP)} {fm : HP → Option (Int32 × HP)} (A : Ans B h ES fc fm) (K : HP → Option Unit) : ∃ h2, INV B h2 ∧ (((fc h).bind (wrapR ES 211)).bind fun v5 => (fm v5.2).bind fun v8 => (f_M_thrown v8.2 200).bind fun v10 => if v10 = v5.1 then (if v5.1 = 0 then (if ib (0 : Int32) 1 = true then (if (lg_cmp ((v8.2 211 (0 : Int32).toNatClampNeg).toInt64) v8.1.toInt64) = 0 then K v8.2 else none) else none) else K v8.2) else none) = K h2 := by
  rcases A with ⟨x, h1, h2, a1, a2, a3, a4, a5⟩ | ⟨E, h1, j, v, h2, a1, a2, a3, a4, a5, a6⟩
  · refine ⟨h2, a5, ?_⟩
    have c0 : lg_cmp x.toInt64 x.toInt64 = 0 := by
      unfold lg_cmp
      rw [if_neg (fun q => by rw [gt_iff_lt, Int64.lt_iff_toInt_lt] at q; omega), if_pos rfl]
    rw [a1, Option.bind_some]
    show (some ((0 : Int32), hset h1 211 0 x)).bind _ = _
    rw [Option.bind_some, a2, Option.bind_some]
    show (some (h2 200 0)).bind _ = _
    rw [Option.bind_some, a3, if_pos rfl, if_pos rfl, if_pos (by decide)]
    show (if lg_cmp (h2 211 0).toInt64 x.toInt64 = 0 then K h2 else none) = _
    rw [a4, if_pos c0]
  · refine ⟨h2, a6, ?_⟩
    rw [a1, Option.bind_some, a2, Option.bind_some, a4, Option.bind_some]
    show (some (h2 200 0)).bind _ = _
    rw [Option.bind_some, a5, if_pos rfl, if_neg a3]
end INVS
