/-! share: the reference -/
def RepMw (h : HP) (s : Pw) : Prop := (∀ i : Nat, i < 120 → h 207 i = iI (s.1 i)) ∧ (∀ d : Nat, d < 10 → h 208 d = iI (s.2.1 d)) ∧ ∀ i : Nat, i < 30 → h 209 i = iI (s.2.2 i)
def MS (a : Nat) : Prop := a = 201 ∨ a = 202 ∨ a = 203
theorem RepM.fr {h h' : HP} {a : Nat} {z : Nat → Int} (R : RepM h a z) (e : h' a = h a) : RepM h' a z := fun k hk => by rw [e]; exact R k hk
section MSHARE
variable {a : Nat} {z : Nat → Int}
theorem m_serve (A : MS a) (F : WF z) {d : Nat} (hd : d < 10) (h2 : (d : Int) < z 185) (hst : z (127 + 6 * d) ≠ -1) (k68 : Nat → Nat → Int32 → HP → Option HP) : ∀ (n : Nat) (x k r : Int) (fu : Nat) (s : Pw) (h : HP), x + n + 1 = z (126 + 6 * d) → n + 2 < fu → 0 ≤ x → s.2.1 d = x → RepM h a z → RepMw h s → TBk k s → k + n ≤ 100 → IsNear z s.1 d r →
    ∃ h' : HP, f_M_share_110 k68 fu 200 a (iI d) (iI (124 + 6 * (d : Int))) (iI r) h = k68 200 a (iI (d + 1)) h' ∧ RepMw h' (serveZ z d (n + 1) s) ∧ ∀ i, i ≠ 207 → i ≠ 208 → i ≠ 209 → h' i = h i := by
  have hW := F.wall hd h2
  have hD := F.2.2.2.2.2.1 d hd
  have hS := F.2.2.2.2.2.2.1 d hd h2
  have hL := F.2.2.2.1 (z (127 + 6 * d)).toNat (by omega)
  have e1 : (iI (d : Int)).toNatClampNeg = d := by rw [iI_cl (by omega) (by omega)]; omega
  have e2 : ib (iI (d : Int)) 10 = true := iI_ib (by omega) (by omega) (by omega)
  have f8 : fld 200 8 = 207 := rfl
  have f9 : fld 200 9 = 208 := rfl
  have f10 : fld 200 10 = 209 := rfl
  have stop : ∀ (fu : Nat) (h : HP), f_M_share_110 k68 (fu + 1) 200 a (iI d) (iI (124 + 6 * (d : Int))) (iI (-1)) h = k68 200 a (iI (d + 1)) h := by
    intro fu h
    rw [f_M_share_110, lI1, iI_neg, if_pos rfl, iI_add]
  intro n
  induction n with
  | zero =>
    intro x k r fu s h hx hfu h0 hs R RP HT hk hN
    obtain ⟨fu, rfl⟩ : ∃ k, fu = k + 2 := ⟨fu - 2, by omega⟩
    have er := nearZ_eq hN
    have hrr := near_ok F hd h2 hst hN
    by_cases c : r = -1
    · rw [c, stop]
      have es : serveZ z d (0 + 1) s = s := by rw [serveZ, if_pos (by rw [← er]; exact c)]
      rw [es]
      exact ⟨h, rfl, RP, fun i _ _ _ => rfl⟩
    · have e3 : (iI (30 * z (127 + 6 * d) + r)).toNatClampNeg = 30 * (z (127 + 6 * d)).toNat + r.toNat := by
        rw [iI_cl (by omega) (by omega)]
        omega
      have e4 : ib (iI (30 * z (127 + 6 * d) + r)) 120 = true := iI_ib (by omega) (by omega) (by omega)
      have e5 : (iI (3 * (d : Int) + x)).toNatClampNeg = 3 * d + x.toNat := by
        rw [iI_cl (by omega) (by omega)]
        omega
      have e6 : ib (iI (3 * (d : Int) + x)) 30 = true := iI_ib (by omega) (by omega) (by omega)
      have hFr : ∀ i, i ≠ 207 → i ≠ 208 → i ≠ 209 → (hset (hset (hset h 207 (30 * (z (127 + 6 * d)).toNat + r.toNat) (iI (s.1 (30 * (z (127 + 6 * d)).toNat + r.toNat) + 1))) 209 (3 * d + x.toNat) (iI r)) 208 d (iI (x + 1))) i = h i := fun i i1 i2 i3 => by rw [hset_n _ _ _ i2, hset_n _ _ _ i3, hset_n _ _ _ i1]
      have hRP : RepMw (hset (hset (hset h 207 (30 * (z (127 + 6 * d)).toNat + r.toNat) (iI (s.1 (30 * (z (127 + 6 * d)).toNat + r.toNat) + 1))) 209 (3 * d + x.toNat) (iI r)) 208 d (iI (x + 1))) (plugZ z d s) := by
        refine ⟨fun i hi => ?_, fun e he => ?_, fun i hi => ?_⟩
        · rw [hset_n _ _ _ (by decide), hset_n _ _ _ (by decide), hset_s]
          show _ = iI (uI s.1 (30 * (z (127 + 6 * d)).toNat + (nearZ z s.1 d).toNat) (s.1 (30 * (z (127 + 6 * d)).toNat + (nearZ z s.1 d).toNat) + 1) i)
          rw [← er]
          by_cases q : i = 30 * (z (127 + 6 * d)).toNat + r.toNat
          · rw [q, upd_s, uI_s]
          · rw [upd_n _ _ q, uI_n _ _ q]
            exact RP.1 i hi
        · rw [hset_s]
          show _ = iI (uI s.2.1 d (s.2.1 d + 1) e)
          by_cases q : e = d
          · rw [q, upd_s, uI_s, hs]
          · rw [upd_n _ _ q, uI_n _ _ q, hset_n _ _ _ (by decide), hset_n _ _ _ (by decide)]
            exact RP.2.1 e he
        · rw [hset_n _ _ _ (by decide), hset_s]
          show _ = iI (uI s.2.2 (3 * d + (s.2.1 d).toNat) (nearZ z s.1 d) i)
          rw [← er, hs]
          by_cases q : i = 3 * d + x.toNat
          · rw [q, upd_s, uI_s]
          · rw [upd_n _ _ q, uI_n _ _ q, hset_n _ _ _ (by decide)]
            exact RP.2.2 i hi
      have ea : a ≠ 207 ∧ a ≠ 208 ∧ a ≠ 209 := by rcases A with rfl | rfl | rfl <;> decide
      have g9 : hset h 207 (30 * (z (127 + 6 * d)).toNat + r.toNat) (iI (s.1 (30 * (z (127 + 6 * d)).toNat + r.toNat) + 1)) 208 d = iI x := by
        rw [hset_n _ _ _ (by decide), RP.2.1 d hd, hs]
      have g10 : hset (hset h 207 (30 * (z (127 + 6 * d)).toNat + r.toNat) (iI (s.1 (30 * (z (127 + 6 * d)).toNat + r.toNat) + 1))) 209 (3 * d + x.toNat) (iI r) 208 d = iI x := by
        rw [hset_n _ _ _ (by decide), g9]
      have g11 : (hset (hset (hset h 207 (30 * (z (127 + 6 * d)).toNat + r.toNat) (iI (s.1 (30 * (z (127 + 6 * d)).toNat + r.toNat) + 1))) 209 (3 * d + x.toNat) (iI r)) 208 d (iI (x + 1))) 208 d = iI (x + 1) := by rw [hset_s, upd_s]
      have g12 : (hset (hset (hset h 207 (30 * (z (127 + 6 * d)).toNat + r.toNat) (iI (s.1 (30 * (z (127 + 6 * d)).toNat + r.toNat) + 1))) 209 (3 * d + x.toNat) (iI r)) 208 d (iI (x + 1))) a (iI (124 + 6 * (d : Int) + 2)).toNatClampNeg = iI (z (126 + 6 * d)) := by
        rw [hFr a ea.1 ea.2.1 ea.2.2, R.d2 hd]
      have nm : ¬ iI r = iI (-1) := by
        rw [iI_eq (by omega) (by omega) (by omega) (by omega)]
        exact c
      rw [f_M_share_110, lI1, iI_neg, if_neg nm, lI3, lI2, lI30, iI_add, iI_add, ib_d3 hd, if_pos rfl, R.d3 hd, iI_mul, iI_mul, iI_add, e4, if_pos rfl, if_pos rfl, e3, f8, f9, f10, RP.1 _ (by omega), iI_add, Option.bind_some, e2, if_pos rfl, e1, g9, iI_add, e6, if_pos rfl, e5, Option.bind_some, if_pos rfl, if_pos rfl, g10, iI_add, Option.bind_some, if_pos rfl, ib_d2 hd, if_pos rfl, g12, g11]
      rw [tLe (by omega) (by omega) (by omega) (by omega), if_pos (by omega)]
      unfold f_M_share_187
      rw [stop]
      have es : serveZ z d (0 + 1) s = plugZ z d s := by
        rw [serveZ, if_neg (by rw [← er]; exact c)]
        rfl
      rw [es]
      exact ⟨_, rfl, hRP, hFr⟩
  | succ n ih =>
    intro x k r fu s h hx hfu h0 hs R RP HT hk hN
    obtain ⟨fu, rfl⟩ : ∃ k, fu = k + 2 := ⟨fu - 2, by omega⟩
    have er := nearZ_eq hN
    have hrr := near_ok F hd h2 hst hN
    by_cases c : r = -1
    · rw [c, stop]
      have es : serveZ z d (n + 1 + 1) s = s := by rw [serveZ, if_pos (by rw [← er]; exact c)]
      rw [es]
      exact ⟨h, rfl, RP, fun i _ _ _ => rfl⟩
    · have e3 : (iI (30 * z (127 + 6 * d) + r)).toNatClampNeg = 30 * (z (127 + 6 * d)).toNat + r.toNat := by
        rw [iI_cl (by omega) (by omega)]
        omega
      have e4 : ib (iI (30 * z (127 + 6 * d) + r)) 120 = true := iI_ib (by omega) (by omega) (by omega)
      have e5 : (iI (3 * (d : Int) + x)).toNatClampNeg = 3 * d + x.toNat := by
        rw [iI_cl (by omega) (by omega)]
        omega
      have e6 : ib (iI (3 * (d : Int) + x)) 30 = true := iI_ib (by omega) (by omega) (by omega)
      have hFr : ∀ i, i ≠ 207 → i ≠ 208 → i ≠ 209 → (hset (hset (hset h 207 (30 * (z (127 + 6 * d)).toNat + r.toNat) (iI (s.1 (30 * (z (127 + 6 * d)).toNat + r.toNat) + 1))) 209 (3 * d + x.toNat) (iI r)) 208 d (iI (x + 1))) i = h i := fun i i1 i2 i3 => by rw [hset_n _ _ _ i2, hset_n _ _ _ i3, hset_n _ _ _ i1]
      have hRP : RepMw (hset (hset (hset h 207 (30 * (z (127 + 6 * d)).toNat + r.toNat) (iI (s.1 (30 * (z (127 + 6 * d)).toNat + r.toNat) + 1))) 209 (3 * d + x.toNat) (iI r)) 208 d (iI (x + 1))) (plugZ z d s) := by
        refine ⟨fun i hi => ?_, fun e he => ?_, fun i hi => ?_⟩
        · rw [hset_n _ _ _ (by decide), hset_n _ _ _ (by decide), hset_s]
          show _ = iI (uI s.1 (30 * (z (127 + 6 * d)).toNat + (nearZ z s.1 d).toNat) (s.1 (30 * (z (127 + 6 * d)).toNat + (nearZ z s.1 d).toNat) + 1) i)
          rw [← er]
          by_cases q : i = 30 * (z (127 + 6 * d)).toNat + r.toNat
          · rw [q, upd_s, uI_s]
          · rw [upd_n _ _ q, uI_n _ _ q]
            exact RP.1 i hi
        · rw [hset_s]
          show _ = iI (uI s.2.1 d (s.2.1 d + 1) e)
          by_cases q : e = d
          · rw [q, upd_s, uI_s, hs]
          · rw [upd_n _ _ q, uI_n _ _ q, hset_n _ _ _ (by decide), hset_n _ _ _ (by decide)]
            exact RP.2.1 e he
        · rw [hset_n _ _ _ (by decide), hset_s]
          show _ = iI (uI s.2.2 (3 * d + (s.2.1 d).toNat) (nearZ z s.1 d) i)
          rw [← er, hs]
          by_cases q : i = 3 * d + x.toNat
          · rw [q, upd_s, uI_s]
          · rw [upd_n _ _ q, uI_n _ _ q, hset_n _ _ _ (by decide)]
            exact RP.2.2 i hi
      have ea : a ≠ 207 ∧ a ≠ 208 ∧ a ≠ 209 := by rcases A with rfl | rfl | rfl <;> decide
      have g9 : hset h 207 (30 * (z (127 + 6 * d)).toNat + r.toNat) (iI (s.1 (30 * (z (127 + 6 * d)).toNat + r.toNat) + 1)) 208 d = iI x := by
        rw [hset_n _ _ _ (by decide), RP.2.1 d hd, hs]
      have g10 : hset (hset h 207 (30 * (z (127 + 6 * d)).toNat + r.toNat) (iI (s.1 (30 * (z (127 + 6 * d)).toNat + r.toNat) + 1))) 209 (3 * d + x.toNat) (iI r) 208 d = iI x := by
        rw [hset_n _ _ _ (by decide), g9]
      have g11 : (hset (hset (hset h 207 (30 * (z (127 + 6 * d)).toNat + r.toNat) (iI (s.1 (30 * (z (127 + 6 * d)).toNat + r.toNat) + 1))) 209 (3 * d + x.toNat) (iI r)) 208 d (iI (x + 1))) 208 d = iI (x + 1) := by rw [hset_s, upd_s]
      have g12 : (hset (hset (hset h 207 (30 * (z (127 + 6 * d)).toNat + r.toNat) (iI (s.1 (30 * (z (127 + 6 * d)).toNat + r.toNat) + 1))) 209 (3 * d + x.toNat) (iI r)) 208 d (iI (x + 1))) a (iI (124 + 6 * (d : Int) + 2)).toNatClampNeg = iI (z (126 + 6 * d)) := by
        rw [hFr a ea.1 ea.2.1 ea.2.2, R.d2 hd]
      have nm : ¬ iI r = iI (-1) := by
        rw [iI_eq (by omega) (by omega) (by omega) (by omega)]
        exact c
      rw [f_M_share_110, lI1, iI_neg, if_neg nm, lI3, lI2, lI30, iI_add, iI_add, ib_d3 hd, if_pos rfl, R.d3 hd, iI_mul, iI_mul, iI_add, e4, if_pos rfl, if_pos rfl, e3, f8, f9, f10, RP.1 _ (by omega), iI_add, Option.bind_some, e2, if_pos rfl, e1, g9, iI_add, e6, if_pos rfl, e5, Option.bind_some, if_pos rfl, if_pos rfl, g10, iI_add, Option.bind_some, if_pos rfl, ib_d2 hd, if_pos rfl, g12, g11]
      rw [tLe (by omega) (by omega) (by omega) (by omega), if_neg (by omega)]
      unfold f_M_share_187
      have hR3 : RepM (hset (hset (hset h 207 (30 * (z (127 + 6 * d)).toNat + r.toNat) (iI (s.1 (30 * (z (127 + 6 * d)).toNat + r.toNat) + 1))) 209 (3 * d + x.toNat) (iI r)) 208 d (iI (x + 1))) a z := R.fr (hFr a (by rcases A with rfl | rfl | rfl <;> decide) (by rcases A with rfl | rfl | rfl <;> decide) (by rcases A with rfl | rfl | rfl <;> decide))
      obtain ⟨r', hr', hN'⟩ := m_nearest hR3 F hRP.1 ((HT.plug (z := z) (d := d)).tb (by omega)) hd h2 hst
      rw [hr', Option.bind_some]
      have es : serveZ z d (n + 1 + 1) s = serveZ z d (n + 1) (plugZ z d s) := by
        rw [serveZ, if_neg (by rw [← er]; exact c)]
      rw [es]
      obtain ⟨h', k1, k2, k3⟩ := ih (x + 1) (k + 1) r' (fu + 1) (plugZ z d s) (hset (hset (hset h 207 (30 * (z (127 + 6 * d)).toNat + r.toNat) (iI (s.1 (30 * (z (127 + 6 * d)).toNat + r.toNat) + 1))) 209 (3 * d + x.toNat) (iI r)) 208 d (iI (x + 1))) (by omega) (by omega) (by omega) (by show uI s.2.1 d (s.2.1 d + 1) d = _; rw [uI_s, hs]) hR3 hRP HT.plug (by omega) hN'
      exact ⟨h', k1, k2, fun i i1 i2 i3 => by rw [k3 i i1 i2 i3, hFr i i1 i2 i3]⟩
theorem m_share68 (A : MS a) (F : WF z) : ∀ (n d fu : Nat) (h : HP), (d : Int) + n = z 185 → n < fu → RepM h a z → RepMw h (shareTo z d) →
    ∃ h' : HP, f_M_share_68 fu 200 a (iI d) h = some h' ∧ RepMw h' (shareZ z) ∧ ∀ i, i ≠ 207 → i ≠ 208 → i ≠ 209 → h' i = h i := by
  obtain ⟨-, ⟨n1, n2⟩, -⟩ := id F
  have ea : a ≠ 207 ∧ a ≠ 208 ∧ a ≠ 209 := by rcases A with rfl | rfl | rfl <;> decide
  intro n
  induction n with
  | zero =>
    intro d fu h hd hfu R RP
    obtain ⟨fu, rfl⟩ : ∃ k, fu = k + 1 := ⟨fu - 1, by omega⟩
    refine ⟨h, ?_, ?_, fun i _ _ _ => rfl⟩
    · rw [f_M_share_68, ib_185, if_pos rfl, cl_185, R.c185, tLe (by omega) (by omega) (by omega) (by omega), if_pos (by omega)]
    · unfold shareZ
      rw [show (z 185).toNat = d by omega]
      exact RP
  | succ n ih =>
    intro d fu h hd hfu R RP
    obtain ⟨fu, rfl⟩ : ∃ k, fu = k + 1 := ⟨fu - 1, by omega⟩
    obtain ⟨i1, i2, i3⟩ := share_inv F d (by omega)
    have hd10 : d < 10 := by omega
    have h2 : (d : Int) < z 185 := by omega
    have hD := F.2.2.2.2.2.1 d hd10
    have stop : ∀ (k68 : Nat → Nat → Int32 → HP → Option HP) (h : HP), f_M_share_107 k68 200 a (iI d) (iI (124 + 6 * (d : Int))) h = k68 200 a (iI (d + 1)) h := by
      intro k68 h
      unfold f_M_share_107 f_M_share_108
      rw [f_M_share_110, lI1, if_pos rfl, iI_add]
    rw [f_M_share_68, ib_185, if_pos rfl, cl_185, R.c185, tLe (by omega) (by omega) (by omega) (by omega), if_neg (by omega), m_spot, Option.bind_some, m_stands R F hd10 h2, Option.bind_some]
    by_cases c : z (127 + 6 * d) = -1
    · rw [if_pos c, if_pos rfl, stop]
      exact ih (d + 1) fu h (by omega) (by omega) R (by rw [shareTo, if_pos c]; exact RP)
    · rw [if_neg c, if_neg (by decide), lI2, iI_add, ib_d2 hd10, if_pos rfl, R.d2 hd10, lI0, tLe (by omega) (by omega) (by omega) (by omega)]
      by_cases c2 : z (126 + 6 * d) ≤ 0
      · rw [if_pos c2, stop]
        refine ih (d + 1) fu h (by omega) (by omega) R ?_
        rw [shareTo, if_neg c, show (z (126 + 6 * d)).toNat = 0 by omega, serveZ]
        exact RP
      · rw [if_neg c2]
        obtain ⟨r, hr, hN⟩ := m_nearest R F RP.1 (i1.tb (by omega)) hd10 h2 c
        obtain ⟨h', g1, g2, g3⟩ := m_serve A F hd10 h2 c (f_M_share_68 fu) ((z (126 + 6 * d)).toNat - 1) 0 (3 * d) r 4096 (shareTo z d) h (by omega) (by omega) (by omega) (i2 d (Nat.le_refl _)) R RP i1 (by omega) hN
        unfold f_M_share_108
        rw [hr, Option.bind_some, g1]
        obtain ⟨h'', k1, k2, k3⟩ := ih (d + 1) fu h' (by omega) (by omega) (R.fr (g3 a ea.1 ea.2.1 ea.2.2)) (by
          rw [shareTo, if_neg c, show (z (126 + 6 * d)).toNat = (z (126 + 6 * d)).toNat - 1 + 1 by omega]
          exact g2)
        exact ⟨h'', k1, k2, fun i i1 i2 i3 => by rw [k3 i i1 i2 i3, g3 i i1 i2 i3]⟩
theorem m_share38 (k23 : Nat → Nat → Int32 → HP → Option HP) {d : Nat} (hd : d < 10) : ∀ (n x fu : Nat) (h : HP), x + n = 3 → n < fu → ∃ h' : HP, f_M_share_38 k23 fu 200 a (iI d) (iI x) h = k23 200 a (iI (d + 1)) h' ∧ (∀ i, i ≠ 209 → h' i = h i) ∧ (∀ i, (i < 3 * d + x ∨ 3 * d + 3 ≤ i) → h' 209 i = h 209 i) ∧ ∀ k, x ≤ k → k < 3 → h' 209 (3 * d + k) = iI (-1) := by
  intro n
  induction n with
  | zero =>
    intro x fu h hx hfu
    obtain ⟨fu, rfl⟩ : ∃ k, fu = k + 1 := ⟨fu - 1, by omega⟩
    refine ⟨h, ?_, fun _ _ => rfl, fun _ _ => rfl, fun k _ _ => by omega⟩
    rw [f_M_share_38, lI3, tLe (by omega) (by omega) (by omega) (by omega), if_pos (by omega), lI1, iI_add]
  | succ n ih =>
    intro x fu h hx hfu
    obtain ⟨fu, rfl⟩ : ∃ k, fu = k + 1 := ⟨fu - 1, by omega⟩
    have e5 : (iI (3 * (d : Int) + x)).toNatClampNeg = 3 * d + x := by
      rw [iI_cl (by omega) (by omega)]
      omega
    have e6 : ib (iI (3 * (d : Int) + x)) 30 = true := iI_ib (by omega) (by omega) (by omega)
    have f10 : fld 200 10 = 209 := rfl
    rw [f_M_share_38, lI3, tLe (by omega) (by omega) (by omega) (by omega), if_neg (by omega), iI_mul, iI_add, e6, if_pos rfl, e5, f10, Option.bind_some, lI1, iI_add, iI_neg]
    obtain ⟨h', g1, g2, g3, g4⟩ := ih (x + 1) fu (hset h 209 (3 * d + x) (iI (-1))) (by omega) (by omega)
    refine ⟨h', g1, fun i hi => by rw [g2 i hi, hset_n _ _ _ hi], fun i hi => ?_, fun k k1 k2 => ?_⟩
    · rw [g3 i (by omega), hset_s, upd_n _ _ (by omega)]
    · by_cases q : k = x
      · rw [g3 _ (by omega), hset_s, q, upd_s]
      · exact g4 k (by omega) k2
theorem m_share23 (A : MS a) (F : WF z) : ∀ (n d fu : Nat) (h : HP), d + n = 10 → n < fu → RepM h a z → (∀ i : Nat, i < 120 → h 207 i = iI 0) → (∀ e : Nat, e < d → h 208 e = iI 0) → (∀ i : Nat, i < 3 * d → h 209 i = iI (-1)) →
    ∃ h' : HP, f_M_share_23 fu 200 a (iI d) h = some h' ∧ RepMw h' (shareZ z) ∧ ∀ i, i ≠ 207 → i ≠ 208 → i ≠ 209 → h' i = h i := by
  have ea : a ≠ 207 ∧ a ≠ 208 ∧ a ≠ 209 := by rcases A with rfl | rfl | rfl <;> decide
  intro n
  induction n with
  | zero =>
    intro d fu h hd hfu R h1 h2 h3
    obtain ⟨fu, rfl⟩ : ∃ k, fu = k + 1 := ⟨fu - 1, by omega⟩
    obtain ⟨-, ⟨n1, n2⟩, -⟩ := id F
    rw [f_M_share_23, lI10, tLe (by omega) (by omega) (by omega) (by omega), if_pos (by omega), lI0]
    exact m_share68 A F (z 185).toNat 0 4096 h (by omega) (by omega) R ⟨h1, fun e he => h2 e (by omega), fun i hi => h3 i (by omega)⟩
  | succ n ih =>
    intro d fu h hd hfu R h1 h2 h3
    obtain ⟨fu, rfl⟩ : ∃ k, fu = k + 1 := ⟨fu - 1, by omega⟩
    have e1 : (iI (d : Int)).toNatClampNeg = d := by rw [iI_cl (by omega) (by omega)]; omega
    have e2 : ib (iI (d : Int)) 10 = true := iI_ib (by omega) (by omega) (by omega)
    have f9 : fld 200 9 = 208 := rfl
    rw [f_M_share_23, lI10, tLe (by omega) (by omega) (by omega) (by omega), if_neg (by omega), e2, if_pos rfl, e1, f9, Option.bind_some, lI0]
    obtain ⟨h', g1, g2, g3, g4⟩ := m_share38 (a := a) (f_M_share_23 fu) (d := d) (by omega) 3 0 4096 (hset h 208 d (iI 0)) (by omega) (by omega)
    rw [show (iI 0 : Int32) = iI ((0 : Nat) : Int) from rfl, show (iI ((0 : Nat) : Int) : Int32) = iI 0 from rfl]
    have g1' : f_M_share_38 (f_M_share_23 fu) 4096 200 a (iI d) (iI 0) (hset h 208 d (iI 0)) = f_M_share_23 fu 200 a (iI (d + 1)) h' := g1
    rw [g1']
    have fr : ∀ i, i ≠ 208 → i ≠ 209 → h' i = h i := fun i i1 i2 => by rw [g2 i i2, hset_n _ _ _ i1]
    obtain ⟨h'', k1, k2, k3⟩ := ih (d + 1) fu h' (by omega) (by omega) (R.fr (fr a ea.2.1 ea.2.2)) (fun i hi => by rw [fr 207 (by decide) (by decide)]; exact h1 i hi) (fun e he => by
      rw [g2 208 (by decide), hset_s]
      by_cases q : e = d
      · rw [q, upd_s]
      · rw [upd_n _ _ q]; exact h2 e (by omega)) (fun i hi => by
      by_cases q : i < 3 * d
      · rw [g3 i (by omega), hset_n _ _ _ (by decide)]; exact h3 i q
      · have := g4 (i - 3 * d) (by omega) (by omega)
        rw [show 3 * d + (i - 3 * d) = i by omega] at this
        exact this)
    exact ⟨h'', k1, k2, fun i i1 i2 i3 => by rw [k3 i i1 i2 i3, fr i i2 i3]⟩
theorem m_share2 (A : MS a) (F : WF z) : ∀ (n x fu : Nat) (h : HP), x + n = 120 → n < fu → RepM h a z → (∀ i : Nat, i < x → h 207 i = iI 0) →
    ∃ h' : HP, f_M_share_2 fu 200 a (iI x) h = some h' ∧ RepMw h' (shareZ z) ∧ ∀ i, i ≠ 207 → i ≠ 208 → i ≠ 209 → h' i = h i := by
  have ea : a ≠ 207 ∧ a ≠ 208 ∧ a ≠ 209 := by rcases A with rfl | rfl | rfl <;> decide
  intro n
  induction n with
  | zero =>
    intro x fu h hx hfu R h1
    obtain ⟨fu, rfl⟩ : ∃ k, fu = k + 1 := ⟨fu - 1, by omega⟩
    rw [f_M_share_2, lI120, tLe (by omega) (by omega) (by omega) (by omega), if_pos (by omega), lI0]
    exact m_share23 A F 10 0 4096 h (by omega) (by omega) R (fun i hi => h1 i (by omega)) (fun e he => by omega) (fun i hi => by omega)
  | succ n ih =>
    intro x fu h hx hfu R h1
    obtain ⟨fu, rfl⟩ : ∃ k, fu = k + 1 := ⟨fu - 1, by omega⟩
    have e1 : (iI (x : Int)).toNatClampNeg = x := by rw [iI_cl (by omega) (by omega)]; omega
    have e2 : ib (iI (x : Int)) 120 = true := iI_ib (by omega) (by omega) (by omega)
    have f8 : fld 200 8 = 207 := rfl
    rw [f_M_share_2, lI120, tLe (by omega) (by omega) (by omega) (by omega), if_neg (by omega), e2, if_pos rfl, e1, f8, Option.bind_some, lI1, iI_add, lI0]
    obtain ⟨h'', k1, k2, k3⟩ := ih (x + 1) fu (hset h 207 x (iI 0)) (by omega) (by omega) (R.fr (hset_n _ _ _ ea.1)) (fun i hi => by
      rw [hset_s]
      by_cases q : i = x
      · rw [q, upd_s]
      · rw [upd_n _ _ q]; exact h1 i (by omega))
    exact ⟨h'', k1, k2, fun i i1 i2 i3 => by rw [k3 i i1 i2 i3, hset_n _ _ _ i1]⟩
theorem m_share (A : MS a) (F : WF z) (h : HP) (R : RepM h a z) : ∃ h' : HP, f_M_share h 200 a = some h' ∧ RepMw h' (shareZ z) ∧ ∀ i, i ≠ 207 → i ≠ 208 → i ≠ 209 → h' i = h i := by
  unfold f_M_share
  rw [lI0]
  exact m_share2 A F 120 0 4096 h (by omega) (by omega) R (fun i hi => by omega)
end MSHARE
