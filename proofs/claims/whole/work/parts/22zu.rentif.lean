/-! the law's calls: the rent elsewhere, the cheapest place -/
noncomputable def rifZ (u : Nat → Int) (d : Nat) (w f : Int) : Int := if rsnP u d w f = 0 then rentZ (zst u d w f) d else -1
noncomputable def chN (u : Nat → Int) (d : Nat) (w m : Int) (s : Int × Int) : Int × Int := if rifZ u d w m ≠ -1 ∧ (s.2 = -1 ∨ rifZ u d w m < s.2) then (100 * w + m, rifZ u d w m) else s
noncomputable def chI (u : Nat → Int) (d : Nat) (w : Int) : Nat → Int → Int × Int → Int × Int
  | 0, _, s => s
  | n + 1, m, s => chI u d w n (m + 1) (chN u d w m s)
noncomputable def chO (u : Nat → Int) (d : Nat) : Nat → Int → Int × Int → Int × Int
  | 0, _, s => s
  | n + 1, w, s => chO u d n (w + 1) (chI u d w (u (31 * w.toNat)).toNat 0 s)
def okC (s : Int × Int) : Prop := (s.1 = -1 ↔ s.2 = -1) ∧ (-1 ≤ s.1 ∧ s.1 ≤ 1000) ∧ (-1 ≤ s.2 ∧ s.2 ≤ 1000)
section RENTIF
variable {h g : HP} {a b p : Nat} {z u : Nat → Int} {B : Int}
theorem zst_zst (z : Nat → Int) (d : Nat) (w f w' f' : Int) : zst (zst z d w f) d w' f' = zst z d w' f' := by
  funext k
  by_cases c1 : k = 128 + 6 * d
  · rw [c1, zst_f, zst_f]
  · by_cases c2 : k = 127 + 6 * d
    · rw [c2, zst_w, zst_w]
    · rw [zst_n _ _ _ _ c2 c1, zst_n _ _ _ _ c2 c1, zst_n _ _ _ _ c2 c1]
theorem own_imp {i : Nat} (h : own 10 188 i) : nImp i := by unfold own at h; unfold nImp; omega
theorem QF.tr (e : ∀ i, ¬ own 10 188 i → g i = h i) : QF h g := QF.of (fun i hi => e i (fun q => hi (own_imp q)))
theorem rif_b (F : WF u) {d : Nat} (hd : d < 10) (h2 : (d : Int) < u 185) {w f : Int} (hw : 0 ≤ w ∧ w < u 184) (hf : 0 ≤ f) : -1 ≤ rifZ u d w f ∧ rifZ u d w f ≤ 700 := by
  unfold rifZ
  split
  · rename_i c
    have := rent_b (rsnP_wf F hd h2 hw hf c) hd
    omega
  · omega
theorem ch_ok (F : WF u) {d : Nat} (hd : d < 10) (h2 : (d : Int) < u 185) {w m : Int} (hw : 0 ≤ w ∧ w < u 184) (hm : 0 ≤ m ∧ m < 30) {s : Int × Int} (hs : okC s) : okC (chN u d w m s) := by
  obtain ⟨⟨w1, w2⟩, -⟩ := id F
  have hb := rif_b F hd h2 hw hm.1
  unfold chN
  split
  · rename_i c
    have c1 := c.1
    refine ⟨⟨fun q => ?_, fun q => absurd q c1⟩, ?_, ?_⟩
    · have q' : 100 * w + m = -1 := q
      omega
    · show -1 ≤ 100 * w + m ∧ 100 * w + m ≤ 1000
      omega
    · show -1 ≤ rifZ u d w m ∧ rifZ u d w m ≤ 1000
      omega
  · exact hs
theorem c_rif (RA : RepA h a b p z) {d : Nat} (hd : d < 10) (h2 : (d : Int) < z 185) {w f : Int} (hw : 0 ≤ w ∧ w < z 184) (hf : 0 ≤ f ∧ f < z (31 * w.toNat)) : ∃ h' z', f_A_rentMovedTo h a (iI d) (iI w) (iI f) = some (iI (rifZ (zst z d (-1) (-1)) d w f), h') ∧ RepA h' a b p z' ∧ zst z' d (-1) (-1) = zst z d (-1) (-1) ∧ (∀ i, ¬ own b p i → h' i = h i) := by
  obtain ⟨⟨w1, w2⟩, ⟨n1, n2⟩, -⟩ := id RA.2.2.2
  obtain ⟨h1, g1, g2, g3, -⟩ := a_sendAway RA hd h2
  have e184 : zst z d (-1) (-1) 184 = z 184 := zst_n _ _ _ _ (by omega) (by omega)
  have e185 : zst z d (-1) (-1) 185 = z 185 := zst_n _ _ _ _ (by omega) (by omega)
  have eL : zst z d (-1) (-1) (31 * w.toNat) = z (31 * w.toNat) := zst_n _ _ _ _ (by omega) (by omega)
  obtain ⟨h2', k1, k2, k3, -⟩ := a_letStand g2 hd (by rw [e185]; exact h2) (w := w) (f := f) (by rw [e184]; exact hw) (by rw [eL]; exact hf)
  have hb := rsnP_b (zst z d (-1) (-1)) d w f
  unfold f_A_rentMovedTo rifZ
  rw [g1, Option.bind_some]
  dsimp only
  rw [k1, Option.bind_some]
  dsimp only
  rw [lI0, tEq (by omega) (by omega) (by omega) (by omega)]
  by_cases c : rsnP (zst z d (-1) (-1)) d w f = 0
  · rw [if_pos c] at k2
    rw [if_pos c, if_pos c, a_rent k2.1 k2.2.1 k2.2.2.1 k2.2.2.2 hd (by rw [zst_n _ _ _ _ (by omega) (by omega), e185]; exact h2), Option.bind_some]
    exact ⟨h2', _, rfl, k2, by rw [zst_zst, zst_zst], fun i hi => by rw [k3 i hi, g3 i hi]⟩
  · rw [if_neg c] at k2
    rw [if_neg c, if_neg c, m1I]
    exact ⟨h2', _, rfl, k2, by rw [zst_zst], fun i hi => by rw [k3 i hi, g3 i hi]⟩
theorem rsn0 {d : Nat} (hs : u (127 + 6 * d) = -1) (w f : Int) : rsnP u d w f = 0 ↔ f + u (125 + 6 * d) ≤ u (31 * w.toNat) ∧ frZ u w f (u (125 + 6 * d)) d d = true := by
  unfold rsnP
  rw [if_pos hs]
  constructor
  · intro q
    split at q
    · rename_i c
      split at q
      · rename_i c2
        exact ⟨c, c2⟩
      · omega
    · omega
  · rintro ⟨c, c2⟩
    rw [if_pos c, if_pos c2]
theorem m_rentAt (R : RepM h 201 z) (F : WF z) {d : Nat} (hd : d < 10) (h2 : (d : Int) < z 185) {w f : Int} (hw : 0 ≤ w ∧ w < z 184) (hf : 0 ≤ f ∧ f < z (31 * w.toNat)) : ∃ h', f_M_rentAt h 200 (iI d) (iI w) (iI f) = some (iI (rifZ (zst z d (-1) (-1)) d w f), h') ∧ (∀ i, i ≠ 202 → i ≠ 207 → i ≠ 208 → i ≠ 209 → h' i = h i) := by
  obtain ⟨⟨w1, w2⟩, ⟨n1, n2⟩, -⟩ := id F
  have hL := F.2.2.2.1 w.toNat (by omega)
  obtain ⟨h1, g1, g2, g3⟩ := m_copy (a' := 202) (by decide) R
  have Fu : WF (zst z d (-1) (-1)) := wf_zst F hd h2 (Or.inl ⟨rfl, rfl⟩)
  have e185 : zst z d (-1) (-1) 185 = z 185 := zst_n _ _ _ _ (by omega) (by omega)
  have e184 : zst z d (-1) (-1) 184 = z 184 := zst_n _ _ _ _ (by omega) (by omega)
  have Ru := m_standR g2 hd (-1) (-1)
  have r0 := rsn0 (zst_w z d (-1) (-1)) w f
  have f1 : ∀ i, i ≠ 202 → (hset (hset h1 202 (127 + 6 * d) (iI (-1))) 202 (128 + 6 * d) (iI (-1))) i = h i := fun i hi => by rw [hset_n _ _ _ hi, hset_n _ _ _ hi, g3 i hi]
  have ef := m_fits Ru Fu (d := d) (e := d) hd (by rw [e185]; exact h2) hd (w := w) (f := f) ⟨hw.1, by omega⟩ ⟨hf.1, by omega⟩
  unfold f_M_rentAt rifZ
  rw [fA1, fA2, g1, Option.bind_some, m1I, m_stand g2 hd, Option.bind_some, ef, Option.bind_some]
  by_cases c : rsnP (zst z d (-1) (-1)) d w f = 0
  · have Fv := rsnP_wf Fu hd (by rw [e185]; exact h2) (by rw [e184]; exact hw) hf.1 c
    have Rv := m_standR Ru hd w f
    obtain ⟨h3, k1, k2, k3⟩ := m_share (Or.inr (Or.inl rfl)) Fv _ Rv
    have e2 : zst (zst z d (-1) (-1)) d w f 185 = z 185 := by rw [zst_n _ _ _ _ (by omega) (by omega), e185]
    rw [if_pos (r0.mp c), if_neg (by decide), m_stand Ru hd, Option.bind_some, k1, Option.bind_some, m_rent (Rv.fr (k3 _ (by decide) (by decide) (by decide))) k2 Fv hd (by rw [e2]; exact h2), Option.bind_some, if_pos c]
    exact ⟨h3, rfl, fun i i1 i2 i3 i4 => by rw [k3 i i2 i3 i4, hset_n _ _ _ i1, hset_n _ _ _ i1, f1 i i1]⟩
  · rw [if_neg (fun q => c (r0.mpr q)), if_pos rfl, if_neg c]
    exact ⟨_, rfl, fun i i1 _ _ _ => f1 i i1⟩
theorem S3 : FS 183 10 188 := Or.inr ⟨rfl, rfl, rfl⟩
theorem f183 : fld 180 1 = 183 := rfl
theorem B0 : BS 0 := ⟨by decide, by decide⟩
theorem q_rentIf (I : INV B h) (x y v : Int32) : Ans B h ["java/lang/IndexOutOfBoundsException"] (fun h => f_F_rentIf h 180 x y v) (fun h => f_M_rentIf h 200 x y v) := by
  obtain ⟨z, MI⟩ := I.1
  obtain ⟨RA, RM, h13, K⟩ := id MI
  obtain ⟨S, R, RP, F⟩ := id RA
  obtain ⟨⟨w1, w2⟩, ⟨n1, n2⟩, -⟩ := id F
  obtain ⟨x, hx, rfl⟩ := i32 x
  obtain ⟨y, hy, rfl⟩ := i32 y
  obtain ⟨v, hv, rfl⟩ := i32 v
  have rd := s_hasDealer R F hx
  have rdm := m_isDealer RM F hx
  have rw_ := s_hasMetre R S.bs F hy hv
  have rwm := m_isMetre RM F hy hv
  by_cases cd : 0 ≤ x ∧ x < z 185
  · rw [if_pos cd] at rd rdm
    by_cases cw : 0 ≤ y ∧ y < z 184 ∧ 0 ≤ v ∧ v < z (31 * y.toNat)
    · rw [if_pos cw] at rw_ rwm
      obtain ⟨d, h2, rfl⟩ : ∃ d : Nat, (d : Int) < z 185 ∧ x = d := ⟨x.toNat, by omega, by omega⟩
      have hd : d < 10 := by omega
      obtain ⟨h1, g1, g2, g3, g4⟩ := a_become S3 B0 (by decide) R F
      obtain ⟨h2', z', k1, k2, k3, k4⟩ := c_rif g2 hd h2 (w := y) (f := v) ⟨cw.1, cw.2.1⟩ cw.2.2
      refine Ans.q (x := iI (rifZ (zst z d (-1) (-1)) d y v)) (h1 := h2') I ?_ (QF.tr (fun i hi => by rw [k4 i hi, g4 i hi])) (fun g q => ?_)
      · show f_F_rentIf h 180 (iI d) (iI y) (iI v) = _
        unfold f_F_rentIf
        rw [f00, rd, Option.bind_some, if_neg (by decide), rw_, Option.bind_some, if_neg (by decide), f_F_rentIf_34, if_neg (by decide), f183, f00, g1, Option.bind_some, k1, Option.bind_some]
      · have RG := MI.m0 q 0
        have RG1 := MI.mg q
        have rdg := m_isDealer RG1 F hx
        have rwg := m_isMetre RG1 F hy hv
        rw [if_pos cd] at rdg
        rw [if_pos cw] at rwg
        obtain ⟨h3, p1, p2⟩ := m_rentAt RG F hd h2 (w := y) (f := v) ⟨cw.1, cw.2.1⟩ cw.2.2
        show ∃ h2, f_M_rentIf g 200 (iI d) (iI y) (iI v) = some (iI (rifZ (zst z d (-1) (-1)) d y v), h2) ∧ QmA g h2
        unfold f_M_rentIf
        rw [fA1, rdg, Option.bind_some, if_neg (by decide), rwg, Option.bind_some, if_neg (by decide), f_M_rentIf_29, refused0, Option.bind_some]
        dsimp only
        rw [if_pos rfl, p1, Option.bind_some]
        exact ⟨h3, rfl, QmA.of (fun i i1 i2 i3 i4 => p2 i i1 i2 i3 i4)⟩
    · rw [if_neg cw] at rw_ rwm
      refine Ans.no (E := "java/lang/IndexOutOfBoundsException") (j := 1) (v := 0) I ?_ (wr1 _ _) (by decide) ?_
      · show f_F_rentIf h 180 (iI x) (iI y) (iI v) = _
        unfold f_F_rentIf
        rw [f00, rd, Option.bind_some, if_neg (by decide), rw_, Option.bind_some, if_pos rfl, f_F_rentIf_33, f_F_rentIf_34, if_pos rfl]
      · show f_M_rentIf h 200 (iI x) (iI y) (iI v) = _
        unfold f_M_rentIf
        rw [fA1, rdm, Option.bind_some, if_neg (by decide), rwm, Option.bind_some, if_pos rfl, f_M_rentIf_28, f_M_rentIf_29, refused1, Option.bind_some]
        dsimp only
        rw [if_neg (by decide)]
  · rw [if_neg cd] at rd rdm
    refine Ans.no (E := "java/lang/IndexOutOfBoundsException") (j := 1) (v := 0) I ?_ (wr1 _ _) (by decide) ?_
    · show f_F_rentIf h 180 (iI x) (iI y) (iI v) = _
      unfold f_F_rentIf
      rw [f00, rd, Option.bind_some, if_pos rfl, f_F_rentIf_33, f_F_rentIf_34, if_pos rfl]
    · show f_M_rentIf h 200 (iI x) (iI y) (iI v) = _
      unfold f_M_rentIf
      rw [fA1, rdm, Option.bind_some, if_pos rfl, f_M_rentIf_28, f_M_rentIf_29, refused1, Option.bind_some]
      dsimp only
      rw [if_neg (by decide)]
theorem c_ch63 (F : WF z) (k45 : Nat → Int32 → Int32 → Int32 → Int32 → Int32 → HP → Option (Res × HP)) {d : Nat} (hd : d < 10) (h2 : (d : Int) < z 185) {w : Nat} (hw : (w : Int) < z 184) (x2 : Int32) : ∀ (n : Nat) (m : Int) (fu : Nat) (s : Int × Int) (h : HP) (y : Nat → Int), m + n = z (31 * w) → n < fu → 0 ≤ m → okC s → RepS h 0 z → RepA h 183 10 188 y → zst y d (-1) (-1) = zst z d (-1) (-1) → ∃ h' y', f_F_cheapest_63 k45 fu 180 (iI d) x2 (iI s.1) (iI s.2) (iI w) (iI m) h = k45 180 (iI d) x2 (iI (chI (zst z d (-1) (-1)) d w n m s).1) (iI (chI (zst z d (-1) (-1)) d w n m s).2) (iI (w + 1)) h' ∧ okC (chI (zst z d (-1) (-1)) d w n m s) ∧ RepS h' 0 z ∧ RepA h' 183 10 188 y' ∧ zst y' d (-1) (-1) = zst z d (-1) (-1) ∧ (∀ i, ¬ own 10 188 i → h' i = h i) := by
  obtain ⟨⟨w1, w2⟩, ⟨n1, n2⟩, -⟩ := id F
  have hL := F.2.2.2.1 w (by omega)
  have Fu : WF (zst z d (-1) (-1)) := wf_zst F hd h2 (Or.inl ⟨rfl, rfl⟩)
  have u185 : zst z d (-1) (-1) 185 = z 185 := zst_n _ _ _ _ (by omega) (by omega)
  have u184 : zst z d (-1) (-1) 184 = z 184 := zst_n _ _ _ _ (by omega) (by omega)
  have eN : ((w : Nat) : Int).toNat = w := by omega
  intro n
  induction n with
  | zero =>
    intro m fu s h y hm hfu h0 hs R RA ez
    obtain ⟨fu, rfl⟩ : ∃ k, fu = k + 1 := ⟨fu - 1, by omega⟩
    refine ⟨h, y, ?_, hs, R, RA, ez, fun _ _ => rfl⟩
    rw [f_F_cheapest_63, f00, st_len R B0 F (w := (w : Int)) ⟨by omega, by omega⟩, Option.bind_some, eN, tLe (by omega) (by omega) (by omega) (by omega), if_pos (by omega), lI1, iI_add]
    rfl
  | succ n ih =>
    intro m fu s h y hm hfu h0 hs R RA ez
    obtain ⟨fu, rfl⟩ : ∃ k, fu = k + 1 := ⟨fu - 1, by omega⟩
    have y185 : y 185 = z 185 := by have := congrFun ez 185; rw [zst_n _ _ _ _ (by omega) (by omega), zst_n _ _ _ _ (by omega) (by omega)] at this; exact this
    have y184 : y 184 = z 184 := by have := congrFun ez 184; rw [zst_n _ _ _ _ (by omega) (by omega), zst_n _ _ _ _ (by omega) (by omega)] at this; exact this
    have yL : y (31 * w) = z (31 * w) := by have := congrFun ez (31 * w); rw [zst_n _ _ _ _ (by omega) (by omega), zst_n _ _ _ _ (by omega) (by omega)] at this; exact this
    obtain ⟨h1, y1, k1, k2, k3, k4⟩ := c_rif RA hd (by rw [y185]; exact h2) (w := (w : Int)) (f := m) (by rw [y184]; exact ⟨by omega, hw⟩) (by rw [eN, yL]; omega)
    rw [ez] at k1 k3
    have hb := rif_b Fu hd (by rw [u185]; exact h2) (w := (w : Int)) (f := m) (by rw [u184]; exact ⟨by omega, hw⟩) h0
    have hs' := ch_ok Fu hd (by rw [u185]; exact h2) (w := (w : Int)) (m := m) (by rw [u184]; exact ⟨by omega, hw⟩) ⟨h0, by omega⟩ hs
    have R1 : RepS h1 0 z := R.fr (fun i _ i2 => k4 i (fun q => by unfold own at q; omega))
    obtain ⟨h', y', q1, q2, q3, q4, q5, q6⟩ := ih (m + 1) fu (chN (zst z d (-1) (-1)) d w m s) h1 y1 (by omega) (by omega) (by omega) hs' R1 k2 k3
    refine ⟨h', y', ?_, q2, q3, q4, q5, fun i hi => by rw [q6 i hi, k4 i hi]⟩
    obtain ⟨o1, ⟨o2, o3⟩, o4, o5⟩ := hs
    rw [f_F_cheapest_63, f00, st_len R B0 F (w := (w : Int)) ⟨by omega, by omega⟩, Option.bind_some, eN, tLe (by omega) (by omega) (by omega) (by omega), if_neg (by omega), f183, k1, Option.bind_some]
    dsimp only
    rw [m1I, tEq (by omega) (by omega) (by omega) (by omega), tEq (by omega) (by omega) (by omega) (by omega), tLe (by omega) (by omega) (by omega) (by omega), f_F_cheapest_113, f_F_cheapest_126, f_F_cheapest_126, lI100, lI1, iI_mul, iI_add, iI_add]
    show _ = k45 180 (iI d) x2 (iI (chI (zst z d (-1) (-1)) d w n (m + 1) (chN (zst z d (-1) (-1)) d w m s)).1) (iI (chI (zst z d (-1) (-1)) d w n (m + 1) (chN (zst z d (-1) (-1)) d w m s)).2) (iI (w + 1)) h'
    rw [← q1]
    by_cases c1 : rifZ (zst z d (-1) (-1)) d w m = -1
    · have e : chN (zst z d (-1) (-1)) d w m s = s := if_neg (fun q => q.1 c1)
      rw [if_pos c1, e]
    · rw [if_neg c1]
      by_cases c2 : s.2 = -1
      · have e : chN (zst z d (-1) (-1)) d w m s = (100 * w + m, rifZ (zst z d (-1) (-1)) d w m) := if_pos ⟨c1, Or.inl c2⟩
        rw [if_pos c2, e]
      · rw [if_neg c2]
        by_cases c3 : s.2 ≤ rifZ (zst z d (-1) (-1)) d w m
        · have e : chN (zst z d (-1) (-1)) d w m s = s := if_neg (fun q => by have := q.2; omega)
          rw [if_pos c3, e]
        · have e : chN (zst z d (-1) (-1)) d w m s = (100 * w + m, rifZ (zst z d (-1) (-1)) d w m) := if_pos ⟨c1, Or.inr (by omega)⟩
          rw [if_neg c3, e]
theorem ch110 (k47 : Nat → Int32 → Int32 → Int32 → Int32 → Int32 → HP → Option (Int32 × HP)) (k63 : Nat → Int32 → Int32 → Int32 → Int32 → Int32 → Int32 → HP → Option (Int32 × HP)) (a0 : Nat) (x1 x2 x3 x4 x5 x6 x7 : Int32) (h : HP) : f_M_cheapest_110 k47 k63 a0 x1 x2 x3 x4 x5 x6 x7 h = k63 a0 x1 x2 x3 x4 x5 (x6 + 1) h := by
  unfold f_M_cheapest_110 f_M_cheapest_111
  rw [if_pos rfl]
  unfold f_M_cheapest_130
  rw [if_pos rfl]
  rfl
theorem ch106 (k47 : Nat → Int32 → Int32 → Int32 → Int32 → Int32 → HP → Option (Int32 × HP)) (k63 : Nat → Int32 → Int32 → Int32 → Int32 → Int32 → Int32 → HP → Option (Int32 × HP)) (a0 : Nat) (x1 x2 x3 x4 x5 x6 x7 : Int32) (h : HP) : f_M_cheapest_106 k47 k63 a0 x1 x2 x3 x4 x5 x6 x7 h = k63 a0 x1 x2 (100 * x5 + x6) x7 x5 (x6 + 1) h := by
  unfold f_M_cheapest_106 f_M_cheapest_111
  rw [if_neg (by decide)]
  unfold f_M_cheapest_130
  rw [if_neg (by decide)]
  rfl
theorem m_ch63 (F : WF z) (k47 : Nat → Int32 → Int32 → Int32 → Int32 → Int32 → HP → Option (Int32 × HP)) {d : Nat} (hd : d < 10) (h2 : (d : Int) < z 185) {w : Nat} (hw : (w : Int) < z 184) (x2 : Int32) : ∀ (n : Nat) (m : Int) (fu : Nat) (s : Int × Int) (h : HP), m + n = z (31 * w) → n < fu → 0 ≤ m → okC s → RepM h 201 z → ∃ h', f_M_cheapest_63 k47 fu 200 (iI d) x2 (iI s.1) (iI s.2) (iI w) (iI m) h = k47 200 (iI d) x2 (iI (chI (zst z d (-1) (-1)) d w n m s).1) (iI (chI (zst z d (-1) (-1)) d w n m s).2) (iI (w + 1)) h' ∧ okC (chI (zst z d (-1) (-1)) d w n m s) ∧ (∀ i, i ≠ 202 → i ≠ 207 → i ≠ 208 → i ≠ 209 → h' i = h i) := by
  obtain ⟨⟨w1, w2⟩, ⟨n1, n2⟩, -⟩ := id F
  have hL := F.2.2.2.1 w (by omega)
  have Fu : WF (zst z d (-1) (-1)) := wf_zst F hd h2 (Or.inl ⟨rfl, rfl⟩)
  have u185 : zst z d (-1) (-1) 185 = z 185 := zst_n _ _ _ _ (by omega) (by omega)
  have u184 : zst z d (-1) (-1) 184 = z 184 := zst_n _ _ _ _ (by omega) (by omega)
  have eN : ((w : Nat) : Int).toNat = w := by omega
  intro n
  induction n with
  | zero =>
    intro m fu s h hm hfu h0 hs R
    obtain ⟨fu, rfl⟩ : ∃ k, fu = k + 1 := ⟨fu - 1, by omega⟩
    refine ⟨h, ?_, hs, fun _ _ _ _ _ => rfl⟩
    rw [f_M_cheapest_63, fA1, m_size R (w := w) (by omega), Option.bind_some, tLe (by omega) (by omega) (by omega) (by omega), if_pos (by omega), lI1, iI_add]
    rfl
  | succ n ih =>
    intro m fu s h hm hfu h0 hs R
    obtain ⟨fu, rfl⟩ : ∃ k, fu = k + 1 := ⟨fu - 1, by omega⟩
    obtain ⟨h1, k1, k4⟩ := m_rentAt R F hd h2 (w := (w : Int)) (f := m) ⟨by omega, by omega⟩ (by rw [eN]; omega)
    have hb := rif_b Fu hd (by rw [u185]; exact h2) (w := (w : Int)) (f := m) (by rw [u184]; exact ⟨by omega, hw⟩) h0
    have hs' := ch_ok Fu hd (by rw [u185]; exact h2) (w := (w : Int)) (m := m) (by rw [u184]; exact ⟨by omega, hw⟩) ⟨h0, by omega⟩ hs
    obtain ⟨h', q1, q2, q6⟩ := ih (m + 1) fu (chN (zst z d (-1) (-1)) d w m s) h1 (by omega) (by omega) (by omega) hs' (R.fr (k4 201 (by decide) (by decide) (by decide) (by decide)))
    refine ⟨h', ?_, q2, fun i i1 i2 i3 i4 => by rw [q6 i i1 i2 i3 i4, k4 i i1 i2 i3 i4]⟩
    obtain ⟨o1, ⟨o2, o3⟩, o4, o5⟩ := hs
    rw [f_M_cheapest_63, fA1, m_size R (w := w) (by omega), Option.bind_some, tLe (by omega) (by omega) (by omega) (by omega), if_neg (by omega), k1, Option.bind_some]
    dsimp only
    rw [m1I, tEq (by omega) (by omega) (by omega) (by omega), tEq (by omega) (by omega) (by omega) (by omega), tLe (by omega) (by omega) (by omega) (by omega), ch110, ch106, lI100, lI1, iI_mul, iI_add, iI_add]
    show _ = k47 200 (iI d) x2 (iI (chI (zst z d (-1) (-1)) d w n (m + 1) (chN (zst z d (-1) (-1)) d w m s)).1) (iI (chI (zst z d (-1) (-1)) d w n (m + 1) (chN (zst z d (-1) (-1)) d w m s)).2) (iI (w + 1)) h'
    rw [← q1]
    by_cases c1 : rifZ (zst z d (-1) (-1)) d w m = -1
    · have e : chN (zst z d (-1) (-1)) d w m s = s := if_neg (fun q => q.1 c1)
      rw [if_pos c1, e]
    · rw [if_neg c1]
      by_cases c2 : s.2 = -1
      · have e : chN (zst z d (-1) (-1)) d w m s = (100 * w + m, rifZ (zst z d (-1) (-1)) d w m) := if_pos ⟨c1, Or.inl c2⟩
        rw [if_pos (o1.mpr c2), e]
      · rw [if_neg (fun q => c2 (o1.mp q))]
        by_cases c3 : s.2 ≤ rifZ (zst z d (-1) (-1)) d w m
        · have e : chN (zst z d (-1) (-1)) d w m s = s := if_neg (fun q => by have := q.2; omega)
          rw [if_pos c3, e]
        · have e : chN (zst z d (-1) (-1)) d w m s = (100 * w + m, rifZ (zst z d (-1) (-1)) d w m) := if_pos ⟨c1, Or.inr (by omega)⟩
          rw [if_neg c3, e]
end RENTIF
