/-! the text's commands: the reference -/
def MSt (h : HP) (g : Bool) (pos : Nat) : Prop := h 200 13 = iI pos ∧ h 200 14 = iI (boI g)
def FrM (h h' : HP) : Prop := (∀ i, i ≠ 200 → i ≠ 203 → i ≠ 207 → i ≠ 208 → i ≠ 209 → h' i = h i) ∧ ∀ k, k ≠ 13 → k ≠ 14 → k ≠ 15 → h' 200 k = h 200 k
noncomputable def exR (r : Nat) (a b c : Int) (z : Nat → Int) : Rw := if r = 0 then doW z a else if r = 1 then doO z a b c else if r = 2 then doD z a b c else if r = 3 then doP 0 z a b c else if r = 4 then doL z a else if r = 5 then doS 0 z a b else if r = 6 then doN z a else doE z a b
def FinM (h h' : HP) (s : Bool × Nat) (lo : Int) (D : Rw) (z : Nat → Int) : Prop := MSt h' s.1 s.2 ∧ h' 200 15 = iI (lo + boI (s.1 && !D.1)) ∧ RepM h' 203 (if s.1 = true then D.2 else z) ∧ FrM h h'
section CMDM
variable {h g : HP} {t z : Nat → Int} {n : Nat} {B : Int}
theorem FrM.refl (h : HP) : FrM h h := ⟨fun _ _ _ _ _ _ => rfl, fun _ _ _ _ => rfl⟩
theorem FrM.trans {h' : HP} (a : FrM h g) (b : FrM g h') : FrM h h' := ⟨fun i i1 i2 i3 i4 i5 => by rw [b.1 i i1 i2 i3 i4 i5, a.1 i i1 i2 i3 i4 i5], fun k k1 k2 k3 => by rw [b.2 k k1 k2 k3, a.2 k k1 k2 k3]⟩
theorem FrM.of (e : ∀ i, i ≠ 203 → i ≠ 207 → i ≠ 208 → i ≠ 209 → g i = h i) : FrM h g := ⟨fun i _ i2 i3 i4 i5 => e i i2 i3 i4 i5, fun k _ _ _ => by rw [e 200 (by decide) (by decide) (by decide) (by decide)]⟩
theorem TxM.tr (T : TxM h t n) (f : FrM h g) : TxM g t n := T.fr (f.2 12 (by decide) (by decide) (by decide)) (f.1 210 (by decide) (by decide) (by decide) (by decide) (by decide))
theorem bo_b (b : Bool) : 0 ≤ boI b ∧ boI b ≤ 1 := by cases b <;> decide
theorem ite_bo (c : Prop) [Decidable c] : (if c then (1 : Int32) else 0) = iI (boI (decide c)) := by
  by_cases q : c
  · rw [if_pos q, decide_eq_true q]; decide
  · rw [if_neg q, decide_eq_false q]; decide
theorem bo0 (b : Bool) {α : Type} (x y : α) : (if iI (boI b) = 0 then x else y) = if b = true then y else x := by
  cases b
  · rw [if_pos (by decide), if_neg (by decide)]
  · rw [if_neg (by decide), if_pos rfl]
theorem m_here (T : TxM h t n) {pos : Nat} (hp : pos ≤ 500) (h3 : h 200 13 = iI pos) : f_M_here h 200 = some (iI (chT t n pos)) := by
  obtain ⟨t1, t2, t4⟩ := id T
  unfold f_M_here chT
  rw [h3, t2, tLe (by omega) (by omega) (by omega) (by omega)]
  by_cases c : pos < n
  · have e1 : (iI (pos : Int)).toNatClampNeg = pos := by rw [iI_cl (by omega) (by omega)]; omega
    rw [if_neg (by omega), iI_ib (by omega) (by omega) (by omega), if_pos rfl, e1, fA11, (t4 pos c).2, if_pos c]
  · rw [if_pos (by omega), if_neg c, m1I]
theorem m_take {gd b : Bool} {pos : Nat} (M : MSt h gd pos) : ∃ h', f_M_take h 200 (iI (boI b)) = some h' ∧ MSt h' (gd && b) (if (gd && b) = true then pos + 1 else pos) ∧ (∀ i, i ≠ 200 → h' i = h i) ∧ ∀ k, k ≠ 13 → k ≠ 14 → h' 200 k = h 200 k := by
  obtain ⟨m1, m2⟩ := M
  have key : ∀ c : Bool, ∃ h', f_M_take_17 200 200 (iI (boI c)) h = some h' ∧ MSt h' c (if c = true then pos + 1 else pos) ∧ (∀ i, i ≠ 200 → h' i = h i) ∧ ∀ k, k ≠ 13 → k ≠ 14 → h' 200 k = h 200 k := fun c => by
    have e14 : (hset h 200 14 (iI (boI c))) 200 14 = iI (boI c) := by rw [hset_s, upd_s]
    have e13 : (hset h 200 14 (iI (boI c))) 200 13 = iI pos := by rw [hset_s, upd_n _ _ (by decide)]; exact m1
    have eB : isB (iI (boI c)) = true := by cases c <;> decide
    unfold f_M_take_17 f_M_take_37
    rw [eB, if_pos rfl, Option.bind_some, e14, bo0, e13]
    cases c
    · rw [if_neg (by decide), if_neg (by decide), lI0, iI_add, Option.bind_some, Int.add_zero]
      exact ⟨_, rfl, ⟨by rw [hset_s, upd_s], by rw [hset_s, upd_n _ _ (by decide), hset_s, upd_s]⟩, fun i hi => by rw [hset_n _ _ _ hi, hset_n _ _ _ hi], fun k k1 k2 => by rw [hset_s, upd_n _ _ k1, hset_s, upd_n _ _ k2]⟩
    · rw [if_pos rfl, if_pos rfl, lI1, iI_add, Option.bind_some]
      exact ⟨_, rfl, ⟨by rw [hset_s, upd_s]; rfl, by rw [hset_s, upd_n _ _ (by decide), hset_s, upd_s]⟩, fun i hi => by rw [hset_n _ _ _ hi, hset_n _ _ _ hi], fun k k1 k2 => by rw [hset_s, upd_n _ _ k1, hset_s, upd_n _ _ k2]⟩
  have e0 : (0 : Int32) = iI (boI false) := by decide
  have e1 : (1 : Int32) = iI (boI true) := by decide
  unfold f_M_take f_M_take_16
  rw [m2, bo0, bo0, e1]
  cases gd
  · rw [if_neg (by decide), show (false && b) = false from rfl]
    rw [show f_M_take_17 200 200 0 h = f_M_take_17 200 200 (iI (boI false)) h by rw [← e0]]
    exact key false
  · rw [if_pos rfl, show (true && b) = b from rfl]
    cases b
    · rw [if_neg (by decide), show f_M_take_17 200 200 0 h = f_M_take_17 200 200 (iI (boI false)) h by rw [← e0]]
      exact key false
    · rw [if_pos rfl]
      exact key true
theorem m_digit (T : TxM h t n) {gd : Bool} {pos : Nat} (hp : pos ≤ 500) (M : MSt h gd pos) {lo hi : Int} (h0 : 0 ≤ lo) (h1 : lo ≤ hi) (h2 : hi ≤ 9) : ∃ h', f_M_digit h 200 (iI lo) (iI hi) = some (iI (dgS t n lo hi (gd, pos)).1, h') ∧ MSt h' (dgS t n lo hi (gd, pos)).2.1 (dgS t n lo hi (gd, pos)).2.2 ∧ (∀ i, i ≠ 200 → h' i = h i) ∧ ∀ k, k ≠ 13 → k ≠ 14 → h' 200 k = h 200 k := by
  have hc := ch_b T.b pos
  obtain ⟨h', g1, g2, g3, g4⟩ := m_take (b := decide (lo ≤ chT t n pos - 48 ∧ chT t n pos - 48 ≤ hi)) M
  refine ⟨h', ?_, ?_, g3, g4⟩
  · unfold f_M_digit
    rw [m_here T hp M.1, Option.bind_some, lI48, iI_sub, m_in ⟨by omega, by omega⟩ ⟨by omega, by omega⟩ ⟨by omega, by omega⟩, Option.bind_some, ite_bo, g1, Option.bind_some, g2.2, bo0]
    unfold dgS
    cases gd
    · rw [show (false && decide (lo ≤ chT t n pos - 48 ∧ chT t n pos - 48 ≤ hi)) = false from rfl, if_neg (by decide), if_neg (fun q => absurd (show false = true from q.1) (by decide))]
    · by_cases c : lo ≤ chT t n pos - 48 ∧ chT t n pos - 48 ≤ hi
      · rw [decide_eq_true c, if_pos (by decide), if_pos ⟨rfl, c⟩]
      · rw [decide_eq_false c, if_neg (by decide), if_neg (fun q => c q.2)]
  · unfold dgS
    cases gd
    · rw [if_neg (fun q => absurd (show false = true from q.1) (by decide))]
      exact g2
    · by_cases c : lo ≤ chT t n pos - 48 ∧ chT t n pos - 48 ≤ hi
      · rw [decide_eq_true c] at g2
        rw [if_pos ⟨rfl, c⟩]
        exact g2
      · rw [decide_eq_false c] at g2
        rw [if_neg (fun q => c q.2)]
        exact g2
theorem m_two (T : TxM h t n) {gd : Bool} {pos : Nat} (hp : pos ≤ 490) (M : MSt h gd pos) {lo hi : Int} (h0 : 0 ≤ lo) (h1 : lo ≤ hi) (h2 : hi ≤ 99) : ∃ h', f_M_two h 200 (iI lo) (iI hi) = some (iI (twS t n lo hi (gd, pos)).1, h') ∧ MSt h' (twS t n lo hi (gd, pos)).2.1 (twS t n lo hi (gd, pos)).2.2 ∧ (∀ i, i ≠ 200 → h' i = h i) ∧ ∀ k, k ≠ 13 → k ≠ 14 → h' 200 k = h 200 k := by
  obtain ⟨ha, a1, a2, a3, a4⟩ := m_digit T (by omega) M (lo := lo / 10) (hi := hi / 10) (by omega) (by omega) (by omega)
  have b1 := dgS_b T.b (lo := lo / 10) (hi := hi / 10) (by omega) (by omega) (by omega) (gd, pos)
  unfold f_M_two twS tw2
  rw [divI lI10 (by omega) (by omega) (by omega) (by omega), divI lI10 (by omega) (by omega) (by omega) (by omega), lI10, iI_mul, iI_sub, show lo - lo / 10 * 10 = lo % 10 by omega, a1, Option.bind_some]
  generalize dgS t n (lo / 10) (hi / 10) (gd, pos) = q at *
  have Ta : TxM ha t n := T.fr (a4 12 (by decide) (by decide)) (a3 210 (by decide))
  dsimp only
  have e51 : ∀ u w : Int, 0 ≤ u → u ≤ w → w ≤ 9 → ∃ h', f_M_two_51 (iI 10 * iI q.1) 200 (iI u) (iI w) ha = some (iI (10 * q.1 + (dgS t n u w q.2).1), h') ∧ MSt h' (dgS t n u w q.2).2.1 (dgS t n u w q.2).2.2 ∧ (∀ i, i ≠ 200 → h' i = h i) ∧ ∀ k, k ≠ 13 → k ≠ 14 → h' 200 k = h 200 k := fun u w u0 u1 u2 => by
    obtain ⟨hb, c1, c2, c3, c4⟩ := m_digit Ta (pos := q.2.2) (by omega) a2 u0 u1 u2
    unfold f_M_two_51
    rw [c1, Option.bind_some, iI_mul, iI_add]
    exact ⟨hb, rfl, c2, fun i hi => by rw [c3 i hi, a3 i hi], fun k k1 k2 => by rw [c4 k k1 k2, a4 k k1 k2]⟩
  unfold f_M_two_34
  rw [tEq (by omega) (by omega) (by omega) (by omega), lI10, iI_div (by omega) (by omega) (by omega) (by omega), tEq (by omega) (by omega) (by omega) (by omega), tEq (by omega) (by omega) (by omega) (by omega), iI_mul (hi / 10) 10, iI_sub, show hi - hi / 10 * 10 = hi % 10 by omega, lI9, lI0]
  by_cases k1 : q.1 = lo / 10
  · rw [if_pos k1, if_pos k1]
    by_cases k2 : q.1 = hi / 10
    · rw [if_pos k2, if_pos k2]
      exact e51 _ _ (by omega) (by omega) (by omega)
    · rw [if_neg k2, if_neg k2]
      exact e51 _ _ (by omega) (by omega) (by omega)
  · rw [if_neg k1, if_neg k1]
    by_cases k2 : q.1 = hi / 10
    · rw [if_pos k2, if_pos k2]
      exact e51 _ _ (by omega) (by omega) (by omega)
    · rw [if_neg k2, if_neg k2]
      exact e51 _ _ (by omega) (by omega) (by omega)
theorem m_goes {gd c : Bool} {lo : Int} (m2 : h 200 14 = iI (boI gd)) (m3 : h 200 15 = iI lo) : f_M_goes h 200 (iI (boI c)) = some (iI (boI (gd && c)), hset h 200 15 (iI (lo + boI (gd && !c)))) := by
  have e14 : ∀ v, (hset h 200 15 v) 200 14 = iI (boI gd) := fun v => by rw [hset_s, upd_n _ _ (by decide)]; exact m2
  unfold f_M_goes f_M_goes_20 f_M_goes_21
  rw [m2, bo0, bo0, m3]
  cases gd
  · rw [if_neg (by decide), lI0, iI_add, Option.bind_some, e14, ← lI0, if_pos (by decide)]
    rfl
  · rw [if_pos rfl]
    cases c
    · rw [if_neg (by decide), lI1, iI_add, Option.bind_some, e14, if_neg (by decide), bo0, if_neg (by decide)]
      rfl
    · rw [if_pos rfl, lI0, iI_add, Option.bind_some, e14, ← lI0, if_neg (by decide), bo0, if_pos rfl]
      rfl
theorem m_fin {h1 : HP} {s : Bool × Nat} {lo : Int} {D : Rw} {can : Bool} (act : HP → Option (Int32 × HP)) (M : MSt h1 s.1 s.2) (m3 : h1 200 15 = iI lo) (R : RepM h1 203 z) (f1 : FrM h h1) (hD : s.1 = true → can = D.1) (hN : D.1 = false → D.2 = z) (hA : s.1 = true → can = true → ∀ hh : HP, RepM hh 203 z → ∃ r h', act hh = some (r, h') ∧ RepM h' 203 D.2 ∧ ∀ i, i ≠ 203 → i ≠ 207 → i ≠ 208 → i ≠ 209 → h' i = hh i) : ∃ r h', ((f_M_goes h1 200 (iI (boI can))).bind fun v => if v.1 = 0 then some ((0 : Int32), v.2) else (act v.2).bind fun v4 => some (v4.1, v4.2)) = some (r, h') ∧ FinM h h' s lo D z := by
  have fs : ∀ v, FrM h1 (hset h1 200 15 v) := fun v => ⟨fun i i1 _ _ _ _ => hset_n _ _ _ i1, fun k _ _ k3 => by rw [hset_s, upd_n _ _ k3]⟩
  have Ms : ∀ v, MSt (hset h1 200 15 v) s.1 s.2 := fun v => ⟨by rw [hset_s, upd_n _ _ (by decide)]; exact M.1, by rw [hset_s, upd_n _ _ (by decide)]; exact M.2⟩
  have Rs : ∀ v, RepM (hset h1 200 15 v) 203 z := fun v => R.fr (hset_n _ _ _ (by decide))
  rw [m_goes M.2 m3, Option.bind_some]
  dsimp only
  rw [bo0]
  by_cases cs : s.1 = true
  · have eD := hD cs
    by_cases cc : can = true
    · obtain ⟨r, h', a1, a2, a3⟩ := hA cs cc _ (Rs (iI (lo + boI (s.1 && !can))))
      have cD : D.1 = true := by rw [← eD]; exact cc
      rw [if_pos (by rw [cs, cc]; rfl), a1, Option.bind_some]
      have f2 : FrM (hset h1 200 15 (iI (lo + boI (s.1 && !can)))) h' := FrM.of a3
      refine ⟨r, h', rfl, ⟨?_, ?_⟩, ?_, ?_, (f1.trans (fs _)).trans f2⟩
      · rw [a3 200 (by decide) (by decide) (by decide) (by decide)]; exact (Ms _).1
      · rw [a3 200 (by decide) (by decide) (by decide) (by decide)]; exact (Ms _).2
      · rw [a3 200 (by decide) (by decide) (by decide) (by decide), hset_s, upd_s, ← eD]
      · rw [if_pos cs]; exact a2
    · have cc' : can = false := by cases q : can with | false => rfl | true => exact absurd q cc
      rw [if_neg (by rw [cc', cs]; decide)]
      refine ⟨0, _, rfl, Ms _, ?_, ?_, f1.trans (fs _)⟩
      · rw [hset_s, upd_s, ← eD]
      · rw [if_pos cs, hN (by rw [← eD]; exact cc')]; exact Rs _
  · have cs' : s.1 = false := by cases q : s.1 with | false => rfl | true => exact absurd q cs
    rw [if_neg (by rw [cs']; exact fun q => absurd (show false = true from q) (by decide))]
    refine ⟨0, _, rfl, Ms _, ?_, ?_, f1.trans (fs _)⟩
    · rw [hset_s, upd_s, cs']
      rfl
    · rw [if_neg cs]; exact Rs _
end CMDM
