/-! the law's calls: the rent elsewhere, the cheapest place -/
noncomputable def rifZ (u : Nat → Int) (d : Nat) (w f : Int) : Int := if rsnP u d w f = 0 then rentZ (zst u d w f) d else -1
noncomputable def chN (u : Nat → Int) (d : Nat) (w m : Int) (s : Int × Int) : Int × Int := if rifZ u d w m ≠ -1 ∧ (s.2 = -1 ∨ rifZ u d w m < s.2) then (100 * w + m, rifZ u d w m) else s
noncomputable def chI (u : Nat → Int) (d : Nat) (w : Int) : Nat → Int → Int × Int → Int × Int
  | 0, _, s => s
  | n + 1, m, s => chI u d w n (m + 1) (chN u d w m s)
noncomputable def chO (u : Nat → Int) (d : Nat) : Nat → Int → Int × Int → Int × Int
  | 0, _, s => s
  | n + 1, w, s => chO u d n (w + 1) (chI u d w (u (31 * w.toNat)).toNat 0 s)
def okC (s : Int × Int) : Prop := (s.1 = -1 ↔ s.2 = -1) ∧ (-1 ≤ s.1 ∧ s.1 ≤ 1000) ∧ (-1 ≤ s.2 ∧ s.2 ≤ 1000)
section RENTIF
variable {h g : HP} {a b p : Nat} {z u : Nat → Int} {B : Int}
theorem zst_zst (z : Nat → Int) (d : Nat) (w f w' f' : Int) : zst (zst z d w f) d w' f' = zst z d w' f' := by
  funext k
  by_cases c1 : k = 128 + 6 * d
  · rw [c1, zst_f, zst_f]
  · by_cases c2 : k = 127 + 6 * d
    · rw [c2, zst_w, zst_w]
    · rw [zst_n _ _ _ _ c2 c1, zst_n _ _ _ _ c2 c1, zst_n _ _ _ _ c2 c1]
theorem own_imp {i : Nat} (h : own 10 188 i) : nImp i := by unfold own at h; unfold nImp; omega
theorem QF.tr (e : ∀ i, ¬ own 10 188 i → g i = h i) : QF h g := QF.of (fun i hi => e i (fun q => hi (own_imp q)))
theorem rif_b (F : WF u) {d : Nat} (hd : d < 10) (h2 : (d : Int) < u 185) {w f : Int} (hw : 0 ≤ w ∧ w < u 184) (hf : 0 ≤ f) : -1 ≤ rifZ u d w f ∧ rifZ u d w f ≤ 700 := by
  unfold rifZ
  split
  · rename_i c
    have := rent_b (rsnP_wf F hd h2 hw hf c) hd
    omega
  · omega
theorem ch_ok (F : WF u) {d : Nat} (hd : d < 10) (h2 : (d : Int) < u 185) {w m : Int} (hw : 0 ≤ w ∧ w < u 184) (hm : 0 ≤ m ∧ m < 30) {s : Int × Int} (hs : okC s) : okC (chN u d w m s) := by
  obtain ⟨⟨w1, w2⟩, -⟩ := id F
  have hb := rif_b F hd h2 hw hm.1
  unfold chN
  split
  · rename_i c
    have c1 := c.1
    refine ⟨⟨fun q => ?_, fun q => absurd q c1⟩, ?_, ?_⟩
    · have q' : 100 * w + m = -1 := q
      omega
    · show -1 ≤ 100 * w + m ∧ 100 * w + m ≤ 1000
      omega
    · show -1 ≤ rifZ u d w m ∧ rifZ u d w m ≤ 1000
      omega
  · exact hs
theorem c_rif (RA : RepA h a b p z) {d : Nat} (hd : d < 10) (h2 : (d : Int) < z 185) {w f : Int} (hw : 0 ≤ w ∧ w < z 184) (hf : 0 ≤ f ∧ f < z (31 * w.toNat)) : ∃ h' z', f_A_rentMovedTo h a (iI d) (iI w) (iI f) = some (iI (rifZ (zst z d (-1) (-1)) d w f), h') ∧ RepA h' a b p z' ∧ zst z' d (-1) (-1) = zst z d (-1) (-1) ∧ (∀ i, ¬ own b p i → h' i = h i) := by
  obtain ⟨⟨w1, w2⟩, ⟨n1, n2⟩, -⟩ := id RA.2.2.2
  obtain ⟨h1, g1, g2, g3, -⟩ := a_sendAway RA hd h2
  have e184 : zst z d (-1) (-1) 184 = z 184 := zst_n _ _ _ _ (by omega) (by omega)
  have e185 : zst z d (-1) (-1) 185 = z 185 := zst_n _ _ _ _ (by omega) (by omega)
  have eL : zst z d (-1) (-1) (31 * w.toNat) = z (31 * w.toNat) := zst_n _ _ _ _ (by omega) (by omega)
  obtain ⟨h2', k1, k2, k3, -⟩ := a_letStand g2 hd (by rw [e185]; exact h2) (w := w) (f := f) (by rw [e184]; exact hw) (by rw [eL]; exact hf)
  have hb := rsnP_b (zst z d (-1) (-1)) d w f
  unfold f_A_rentMovedTo rifZ
  rw [g1, Option.bind_some]
  dsimp only
  rw [k1, Option.bind_some]
  dsimp only
  rw [lI0, tEq (by omega) (by omega) (by omega) (by omega)]
  by_cases c : rsnP (zst z d (-1) (-1)) d w f = 0
  · rw [if_pos c] at k2
    rw [if_pos c, if_pos c, a_rent k2.1 k2.2.1 k2.2.2.1 k2.2.2.2 hd (by rw [zst_n _ _ _ _ (by omega) (by omega), e185]; exact h2), Option.bind_some]
    exact ⟨h2', _, rfl, k2, by rw [zst_zst, zst_zst], fun i hi => by rw [k3 i hi, g3 i hi]⟩
  · rw [if_neg c] at k2
    rw [if_neg c, if_neg c, m1I]
    exact ⟨h2', _, rfl, k2, by rw [zst_zst], fun i hi => by rw [k3 i hi, g3 i hi]⟩
theorem rsn0 {d : Nat} (hs : u (127 + 6 * d) = -1) (w f : Int) : rsnP u d w f = 0 ↔ f + u (125 + 6 * d) ≤ u (31 * w.toNat) ∧ frZ u w f (u (125 + 6 * d)) d d = true := by
  unfold rsnP
  rw [if_pos hs]
  constructor
  · intro q
    split at q
    · rename_i c
      split at q
      · rename_i c2
        exact ⟨c, c2⟩
      · omega
    · omega
  · rintro ⟨c, c2⟩
    rw [if_pos c, if_pos c2]
theorem S3 : FS 183 10 188 := Or.inr ⟨rfl, rfl, rfl⟩
theorem f183 : fld 180 1 = 183 := rfl
theorem B0 : BS 0 := ⟨by decide, by decide⟩
theorem c_ch63 (F : WF z) (k45 : Nat → Int32 → Int32 → Int32 → Int32 → Int32 → HP → Option (Res × HP)) {d : Nat} (hd : d < 10) (h2 : (d : Int) < z 185) {w : Nat} (hw : (w : Int) < z 184) (x2 : Int32) : ∀ (n : Nat) (m : Int) (fu : Nat) (s : Int × Int) (h : HP) (y : Nat → Int), m + n = z (31 * w) → n < fu → 0 ≤ m → okC s → RepS h 0 z → RepA h 183 10 188 y → zst y d (-1) (-1) = zst z d (-1) (-1) → ∃ h' y', f_F_cheapest_63 k45 fu 180 (iI d) x2 (iI s.1) (iI s.2) (iI w) (iI m) h = k45 180 (iI d) x2 (iI (chI (zst z d (-1) (-1)) d w n m s).1) (iI (chI (zst z d (-1) (-1)) d w n m s).2) (iI (w + 1)) h' ∧ okC (chI (zst z d (-1) (-1)) d w n m s) ∧ RepS h' 0 z ∧ RepA h' 183 10 188 y' ∧ zst y' d (-1) (-1) = zst z d (-1) (-1) ∧ (∀ i, ¬ own 10 188 i → h' i = h i) := by
  obtain ⟨⟨w1, w2⟩, ⟨n1, n2⟩, -⟩ := id F
  have hL := F.2.2.2.1 w (by omega)
  have Fu : WF (zst z d (-1) (-1)) := wf_zst F hd h2 (Or.inl ⟨rfl, rfl⟩)
  have u185 : zst z d (-1) (-1) 185 = z 185 := zst_n _ _ _ _ (by omega) (by omega)
  have u184 : zst z d (-1) (-1) 184 = z 184 := zst_n _ _ _ _ (by omega) (by omega)
  have eN : ((w : Nat) : Int).toNat = w := by omega
  intro n
  induction n with
  | zero =>
    intro m fu s h y hm hfu h0 hs R RA ez
    obtain ⟨fu, rfl⟩ : ∃ k, fu = k + 1 := ⟨fu - 1, by omega⟩
    refine ⟨h, y, ?_, hs, R, RA, ez, fun _ _ => rfl⟩
    rw [f_F_cheapest_63, f00, st_len R B0 F (w := (w : Int)) ⟨by omega, by omega⟩, Option.bind_some, eN, tLe (by omega) (by omega) (by omega) (by omega), if_pos (by omega), lI1, iI_add]
    rfl
  | succ n ih =>
    intro m fu s h y hm hfu h0 hs R RA ez
    obtain ⟨fu, rfl⟩ : ∃ k, fu = k + 1 := ⟨fu - 1, by omega⟩
    have y185 : y 185 = z 185 := by have := congrFun ez 185; rw [zst_n _ _ _ _ (by omega) (by omega), zst_n _ _ _ _ (by omega) (by omega)] at this; exact this
    have y184 : y 184 = z 184 := by have := congrFun ez 184; rw [zst_n _ _ _ _ (by omega) (by omega), zst_n _ _ _ _ (by omega) (by omega)] at this; exact this
    have yL : y (31 * w) = z (31 * w) := by have := congrFun ez (31 * w); rw [zst_n _ _ _ _ (by omega) (by omega), zst_n _ _ _ _ (by omega) (by omega)] at this; exact this
    obtain ⟨h1, y1, k1, k2, k3, k4⟩ := c_rif RA hd (by rw [y185]; exact h2) (w := (w : Int)) (f := m) (by rw [y184]; exact ⟨by omega, hw⟩) (by rw [eN, yL]; omega)
    rw [ez] at k1 k3
    have hb := rif_b Fu hd (by rw [u185]; exact h2) (w := (w : Int)) (f := m) (by rw [u184]; exact ⟨by omega, hw⟩) h0
    have hs' := ch_ok Fu hd (by rw [u185]; exact h2) (w := (w : Int)) (m := m) (by rw [u184]; exact ⟨by omega, hw⟩) ⟨h0, by omega⟩ hs
    have R1 : RepS h1 0 z := R.fr (fun i _ i2 => k4 i (fun q => by unfold own at q; omega))
    obtain ⟨h', y', q1, q2, q3, q4, q5, q6⟩ := ih (m + 1) fu (chN (zst z d (-1) (-1)) d w m s) h1 y1 (by omega) (by omega) (by omega) hs' R1 k2 k3
    refine ⟨h', y', ?_, q2, q3, q4, q5, fun i hi => by rw [q6 i hi, k4 i hi]⟩
    obtain ⟨o1, ⟨o2, o3⟩, o4, o5⟩ := hs
    rw [f_F_cheapest_63, f00, st_len R B0 F (w := (w : Int)) ⟨by omega, by omega⟩, Option.bind_some, eN, tLe (by omega) (by omega) (by omega) (by omega), if_neg (by omega), f183, k1, Option.bind_some]
    dsimp only
    rw [m1I, tEq (by omega) (by omega) (by omega) (by omega), tEq (by omega) (by omega) (by omega) (by omega), tLe (by omega) (by omega) (by omega) (by omega), f_F_cheapest_113, f_F_cheapest_126, f_F_cheapest_126, lI100, lI1, iI_mul, iI_add, iI_add]
    show _ = k45 180 (iI d) x2 (iI (chI (zst z d (-1) (-1)) d w n (m + 1) (chN (zst z d (-1) (-1)) d w m s)).1) (iI (chI (zst z d (-1) (-1)) d w n (m + 1) (chN (zst z d (-1) (-1)) d w m s)).2) (iI (w + 1)) h'
    rw [← q1]
    by_cases c1 : rifZ (zst z d (-1) (-1)) d w m = -1
    · have e : chN (zst z d (-1) (-1)) d w m s = s := if_neg (fun q => q.1 c1)
      rw [if_pos c1, e]
    · rw [if_neg c1]
      by_cases c2 : s.2 = -1
      · have e : chN (zst z d (-1) (-1)) d w m s = (100 * w + m, rifZ (zst z d (-1) (-1)) d w m) := if_pos ⟨c1, Or.inl c2⟩
        rw [if_pos c2, e]
      · rw [if_neg c2]
        by_cases c3 : s.2 ≤ rifZ (zst z d (-1) (-1)) d w m
        · have e : chN (zst z d (-1) (-1)) d w m s = s := if_neg (fun q => by have := q.2; omega)
          rw [if_pos c3, e]
        · have e : chN (zst z d (-1) (-1)) d w m s = (100 * w + m, rifZ (zst z d (-1) (-1)) d w m) := if_pos ⟨c1, Or.inr (by omega)⟩
          rw [if_neg c3, e]
end RENTIF
