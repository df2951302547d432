/-! the law's calls: bestSwap -/
noncomputable def bsV (z : Nat → Int) (d e : Nat) : Int := if rsnS z d e = 0 then rtsZ (zsw z d e) else -1
noncomputable def bsN (z : Nat → Int) (d e : Nat) (s : Int × Int) : Int × Int := if s.2 < bsV z d e then (10 * (d : Int) + e, bsV z d e) else s
noncomputable def bsI (z : Nat → Int) (d : Nat) : Nat → Nat → Int × Int → Int × Int
  | 0, _, s => s
  | n + 1, e, s => bsI z d n (e + 1) (bsN z d e s)
noncomputable def bsO (z : Nat → Int) : Nat → Nat → Int × Int → Int × Int
  | 0, _, s => s
  | n + 1, d, s => bsO z n (d + 1) (bsI z d n (d + 1) s)
def bsR (k : Int) (s : Int × Int) : Int := if s.1 = -1 then -1 else if k = 0 then s.1 else s.2
def okB2 (s : Int × Int) : Prop := (-1 ≤ s.1 ∧ s.1 ≤ 1000) ∧ (0 ≤ s.2 ∧ s.2 ≤ 7000)
section BEST
variable {h g : HP} {a b p : Nat} {z u : Nat → Int} {B : Int}
theorem m_exchange (R : RepM h a z) {x y : Nat} (hx : x < 10) (hy : y < 10) : ∃ h', f_M_exchange h a (iI x) (iI y) = some h' ∧ RepM h' a (zsx z x y) ∧ ∀ i, i ≠ a → h' i = h i := by
  have R1 := m_standR (m_standR R hx (z (127 + 6 * y)) (z (128 + 6 * y))) hy (z (127 + 6 * x)) (z (128 + 6 * x))
  unfold f_M_exchange
  rw [m_spot, m_spot, Option.bind_some, lI3, lI4, iI_add, ib_d3 hx, if_pos rfl, Option.bind_some, iI_add, ib_d4 hx, if_pos rfl, Option.bind_some, iI_add, ib_d3 hy, if_pos rfl, Option.bind_some, iI_add, ib_d4 hy, if_pos rfl, R.d3 hx, R.d4 hx, R.d3 hy, R.d4 hy, m_stand R hx, Option.bind_some, m_stand (m_standR R hx _ _) hy, Option.bind_some]
  exact ⟨_, rfl, R1, fun i hi => by rw [hset_n _ _ _ hi, hset_n _ _ _ hi, hset_n _ _ _ hi, hset_n _ _ _ hi]⟩
theorem zsx_l (z : Nat → Int) (x y : Nat) : Lite (zsx z x y) (zsw z x y) := fun k h1 h2 _ => by
  unfold zsw
  exact uI_n _ _ (by omega)
theorem zsx_rts {x y : Nat} (F : WF (zsx z x y)) : rtsZ (zsw z x y) = rtsZ (zsx z x y) := (zsx_l z x y).rents F
theorem bs_b (F : WF z) {d e : Nat} (hd : d < 10) (h2 : (d : Int) < z 185) (he : e < 10) (h3 : (e : Int) < z 185) (hde : d ≠ e) : -1 ≤ bsV z d e ∧ bsV z d e ≤ 7000 := by
  unfold bsV
  split
  · rename_i c
    have := rts_b (zsw_wf F hd h2 he h3 hde c)
    omega
  · omega
theorem bs_ok (F : WF z) {d e : Nat} (hd : d < 10) (h2 : (d : Int) < z 185) (he : e < 10) (h3 : (e : Int) < z 185) (hde : d ≠ e) {s : Int × Int} (hs : okB2 s) : okB2 (bsN z d e s) := by
  have hb := bs_b F hd h2 he h3 hde
  obtain ⟨⟨s1, s2⟩, s3, s4⟩ := id hs
  unfold bsN
  split
  · refine ⟨?_, ?_⟩
    · show -1 ≤ 10 * (d : Int) + e ∧ 10 * (d : Int) + e ≤ 1000
      omega
    · show 0 ≤ bsV z d e ∧ bsV z d e ≤ 7000
      omega
  · exact hs
theorem S2 : FS 182 0 184 := Or.inl ⟨rfl, rfl, rfl⟩
theorem c_behind (R : RepS h 0 z) (F : WF z) {d e : Nat} (hd : d < 10) (h2 : (d : Int) < z 185) (he : e < 10) (h3 : (e : Int) < z 185) (hde : d ≠ e) : ∃ h', f_F_rentsBehindSwap h 180 (iI d) (iI e) = some (iI (bsV z d e), h') ∧ (∀ i, ¬ own 10 188 i → h' i = h i) := by
  have hb := rsnS_b z d e
  unfold f_F_rentsBehindSwap bsV
  rw [f0, a_swapR S2 R F hd h2 he h3 hde, Option.bind_some, lI0, tEq (by omega) (by omega) (by omega) (by omega)]
  by_cases c : rsnS z d e = 0
  · obtain ⟨h1, g1, g2, g3, g4⟩ := a_become S3 B0 (by decide) R F
    obtain ⟨h2', k1, k2, k3, k4⟩ := a_exchange g2 hd h2 he h3 hde
    rw [if_pos c] at k2
    rw [if_pos c, if_pos c, f183, show fld 182 0 = 0 from rfl, g1, Option.bind_some, k1, Option.bind_some]
    dsimp only
    rw [a_rents k2.1 k2.2.1 k2.2.2.1 k2.2.2.2, Option.bind_some]
    exact ⟨h2', rfl, fun i hi => by rw [k3 i hi, g4 i hi]⟩
  · rw [if_neg c, if_neg c, m1I]
    exact ⟨h, rfl, fun _ _ => rfl⟩
theorem c_bs43 (F : WF z) (k22 : Nat → Int32 → Int32 → Int32 → Int32 → HP → Option (Res × HP)) {d : Nat} (hd : d < 10) (h2 : (d : Int) < z 185) (x1 : Int32) : ∀ (n e fu : Nat) (s : Int × Int) (h : HP), (e : Int) + n = z 185 → n < fu → d < e → okB2 s → RepS h 0 z → ∃ h', f_F_bestSwap_43 k22 fu 180 x1 (iI s.1) (iI s.2) (iI d) (iI e) h = k22 180 x1 (iI (bsI z d n e s).1) (iI (bsI z d n e s).2) (iI ((d : Int) + 1)) h' ∧ okB2 (bsI z d n e s) ∧ (∀ i, ¬ own 10 188 i → h' i = h i) := by
  obtain ⟨⟨w1, w2⟩, ⟨n1, n2⟩, -⟩ := id F
  intro n
  induction n with
  | zero =>
    intro e fu s h he hfu hlt hs R
    obtain ⟨fu, rfl⟩ : ∃ k, fu = k + 1 := ⟨fu - 1, by omega⟩
    refine ⟨h, ?_, hs, fun _ _ => rfl⟩
    rw [f_F_bestSwap_43, f00, R.nd, tLe (by omega) (by omega) (by omega) (by omega), if_pos (by omega), lI1, iI_add]
    rfl
  | succ n ih =>
    intro e fu s h he hfu hlt hs R
    obtain ⟨fu, rfl⟩ : ∃ k, fu = k + 1 := ⟨fu - 1, by omega⟩
    obtain ⟨h1, k1, k2⟩ := c_behind R F hd h2 (e := e) (by omega) (by omega) (by omega)
    have hb := bs_b F hd h2 (e := e) (by omega) (by omega) (by omega)
    have hs' := bs_ok F hd h2 (e := e) (by omega) (by omega) (by omega) hs
    obtain ⟨h', q1, q2, q3⟩ := ih (e + 1) fu (bsN z d e s) h1 (by omega) (by omega) (by omega) hs' (R.fr (fun i _ i2 => k2 i (fun q => by unfold own at q; omega)))
    refine ⟨h', ?_, q2, fun i hi => by rw [q3 i hi, k2 i hi]⟩
    obtain ⟨⟨s1, s2⟩, s3, s4⟩ := id hs
    rw [f_F_bestSwap_43, f00, R.nd, tLe (by omega) (by omega) (by omega) (by omega), if_neg (by omega), k1, Option.bind_some]
    dsimp only
    rw [tLe (by omega) (by omega) (by omega) (by omega), f_F_bestSwap_86, f_F_bestSwap_86, lI10, lI1, iI_mul, iI_add, iI_add, show (e : Int) + 1 = ((e + 1 : Nat) : Int) by omega]
    show _ = k22 180 x1 (iI (bsI z d n (e + 1) (bsN z d e s)).1) (iI (bsI z d n (e + 1) (bsN z d e s)).2) (iI ((d : Int) + 1)) h'
    rw [← q1]
    by_cases c : bsV z d e ≤ s.2
    · have ee : bsN z d e s = s := if_neg (by omega)
      rw [if_pos c, ee]
    · have ee : bsN z d e s = (10 * (d : Int) + e, bsV z d e) := if_pos (by omega)
      rw [if_neg c, ee]
theorem c_bs22 (F : WF z) {k : Int} (hk : k = 0 ∨ k = 1) : ∀ (n d fu : Nat) (s : Int × Int) (h : HP), (d : Int) + n = z 185 → n < fu → okB2 s → RepS h 0 z → ∃ h', f_F_bestSwap_22 fu 180 (iI k) (iI s.1) (iI s.2) (iI d) h = some (.inl (some (.int (iI (bsR k (bsO z n d s))))), h') ∧ (∀ i, ¬ own 10 188 i → h' i = h i) := by
  obtain ⟨⟨w1, w2⟩, ⟨n1, n2⟩, -⟩ := id F
  intro n
  induction n with
  | zero =>
    intro d fu s h hd hfu hs R
    obtain ⟨fu, rfl⟩ : ∃ k, fu = k + 1 := ⟨fu - 1, by omega⟩
    obtain ⟨⟨s1, s2⟩, s3, s4⟩ := id hs
    refine ⟨h, ?_, fun _ _ => rfl⟩
    rw [f_F_bestSwap_22, f00, R.nd, tLe (by omega) (by omega) (by omega) (by omega), if_pos (by omega), lI0, tEq (by omega) (by omega) (by omega) (by omega), m1I, tEq (by omega) (by omega) (by omega) (by omega), f_F_bestSwap_107]
    show _ = some (Sum.inl (some (Value.int (iI (if s.1 = -1 then -1 else if k = 0 then s.1 else s.2)))), h)
    by_cases c : k = 0
    · rw [if_pos c]
      by_cases c2 : s.1 = -1
      · rw [if_pos c2, c2]
      · rw [if_neg c2, if_pos c]
    · rw [if_neg c]
      by_cases c2 : s.1 = -1
      · rw [if_pos c2, if_pos c2, c2]
      · rw [if_neg c2, if_neg c2, if_neg c]
  | succ n ih =>
    intro d fu s h hd hfu hs R
    obtain ⟨fu, rfl⟩ : ∃ k, fu = k + 1 := ⟨fu - 1, by omega⟩
    obtain ⟨h1, k1, k2, k3⟩ := c_bs43 F (f_F_bestSwap_22 fu) (d := d) (by omega) (by omega) (iI k) n (d + 1) 4096 s h (by omega) (by omega) (by omega) hs R
    obtain ⟨h', q1, q2⟩ := ih (d + 1) fu _ h1 (by omega) (by omega) k2 (R.fr (fun i _ i2 => k3 i (fun q => by unfold own at q; omega)))
    refine ⟨h', ?_, fun i hi => by rw [q2 i hi, k3 i hi]⟩
    rw [f_F_bestSwap_22, f00, R.nd, tLe (by omega) (by omega) (by omega) (by omega), if_neg (by omega), lI1, iI_add, show (d : Int) + 1 = ((d + 1 : Nat) : Int) by omega, k1, show (d : Int) + 1 = ((d + 1 : Nat) : Int) by omega]
    exact q1
theorem m_bs57 (F : WF z) (k38 : Nat → Int32 → Int32 → Int32 → Int32 → HP → Option (Int32 × HP)) {d : Nat} (hd : d < 10) (h2 : (d : Int) < z 185) (x1 : Int32) : ∀ (n e fu : Nat) (s : Int × Int) (h : HP), (e : Int) + n = z 185 → n < fu → d < e → okB2 s → RepM h 201 z → ∃ h', f_M_bestSwap_57 k38 fu 200 x1 (iI s.1) (iI s.2) (iI d) (iI e) h = k38 200 x1 (iI (bsI z d n e s).1) (iI (bsI z d n e s).2) (iI ((d : Int) + 1)) h' ∧ okB2 (bsI z d n e s) ∧ (∀ i, i ≠ 202 → i ≠ 207 → i ≠ 208 → i ≠ 209 → h' i = h i) := by
  obtain ⟨⟨w1, w2⟩, ⟨n1, n2⟩, -⟩ := id F
  intro n
  induction n with
  | zero =>
    intro e fu s h he hfu hlt hs R
    obtain ⟨fu, rfl⟩ : ∃ k, fu = k + 1 := ⟨fu - 1, by omega⟩
    refine ⟨h, ?_, hs, fun _ _ _ _ _ => rfl⟩
    rw [f_M_bestSwap_57, ib_185, if_pos rfl, fA1, cl_185, R.c185, tLe (by omega) (by omega) (by omega) (by omega), if_pos (by omega), lI1, iI_add]
    rfl
  | succ n ih =>
    intro e fu s h he hfu hlt hs R
    obtain ⟨fu, rfl⟩ : ∃ k, fu = k + 1 := ⟨fu - 1, by omega⟩
    have he10 : e < 10 := by omega
    have h3 : (e : Int) < z 185 := by omega
    have hde : d ≠ e := by omega
    obtain ⟨ha, a1, a2, a3⟩ := m_copy (a' := 202) (by decide) R
    obtain ⟨hb', b1, b2, b3⟩ := m_swapR a2 F hd h2 he10 h3 hde
    have hr := rsnS_b z d e
    have hb := bs_b F hd h2 he10 h3 hde
    have hs' := bs_ok F hd h2 he10 h3 hde hs
    obtain ⟨⟨s1, s2⟩, s3, s4⟩ := id hs
    rw [f_M_bestSwap_57, ib_185, if_pos rfl, fA1, cl_185, R.c185, tLe (by omega) (by omega) (by omega) (by omega), if_neg (by omega), fA2, a1, Option.bind_some, b1, Option.bind_some]
    dsimp only
    rw [lI0, tEq (by omega) (by omega) (by omega) (by omega)]
    by_cases c : rsnS z d e = 0
    · obtain ⟨c1, c2, c3, c4, c5⟩ := rsnS_0 c
      have Fx := swap_wf F hd h2 he10 h3 hde c1 c2 c4 c5
      obtain ⟨hc, d1, d2, d3⟩ := m_exchange b2 hd he10
      obtain ⟨hf, e1, e2⟩ := m_rents (Or.inr (Or.inl rfl)) d2 Fx
      have eV : bsV z d e = rtsZ (zsx z d e) := by unfold bsV; rw [if_pos c, zsx_rts Fx]
      have fr : ∀ i, i ≠ 202 → i ≠ 207 → i ≠ 208 → i ≠ 209 → hf i = h i := fun i i1 i2 i3 i4 => by rw [e2 i i2 i3 i4, d3 i i1, b3 i i1, a3 i i1]
      obtain ⟨h', q1, q2, q3⟩ := ih (e + 1) fu (bsN z d e s) hf (by omega) (by omega) (by omega) hs' (R.fr (fr 201 (by decide) (by decide) (by decide) (by decide)))
      refine ⟨h', ?_, q2, fun i i1 i2 i3 i4 => by rw [q3 i i1 i2 i3 i4, fr i i1 i2 i3 i4]⟩
      rw [if_pos c, d1, Option.bind_some, e1, Option.bind_some]
      dsimp only
      rw [← eV, tLe (by omega) (by omega) (by omega) (by omega), f_M_bestSwap_134, f_M_bestSwap_134, tLe (by omega) (by omega) (by omega) (by omega), f_M_bestSwap_147, f_M_bestSwap_147, f_M_bestSwap_148, f_M_bestSwap_148, f_M_bestSwap_147, f_M_bestSwap_147, f_M_bestSwap_148, f_M_bestSwap_148, lI10, lI1, iI_mul, iI_add, iI_add, show (e : Int) + 1 = ((e + 1 : Nat) : Int) by omega]
      show _ = k38 200 x1 (iI (bsI z d n (e + 1) (bsN z d e s)).1) (iI (bsI z d n (e + 1) (bsN z d e s)).2) (iI ((d : Int) + 1)) h'
      rw [← q1]
      by_cases c6 : bsV z d e ≤ s.2
      · have ee : bsN z d e s = s := if_neg (by omega)
        rw [if_pos c6, if_pos c6, ee]
      · have ee : bsN z d e s = (10 * (d : Int) + e, bsV z d e) := if_pos (by omega)
        rw [if_neg c6, tLe (by omega) (by omega) (by omega) (by omega), if_neg c6, ee]
    · have eV : bsV z d e = -1 := if_neg c
      have ee : bsN z d e s = s := if_neg (by omega)
      rw [ee] at hs'
      have fr : ∀ i, i ≠ 202 → hb' i = h i := fun i i1 => by rw [b3 i i1, a3 i i1]
      obtain ⟨h', q1, q2, q3⟩ := ih (e + 1) fu s hb' (by omega) (by omega) (by omega) hs' (R.fr (fr 201 (by decide)))
      have ei : bsI z d (n + 1) e s = bsI z d n (e + 1) s := by rw [bsI, ee]
      rw [ei]
      refine ⟨h', ?_, q2, fun i i1 i2 i3 i4 => by rw [q3 i i1 i2 i3 i4, fr i i1]⟩
      rw [if_neg c, f_M_bestSwap_148, lI1, iI_add, show (e : Int) + 1 = ((e + 1 : Nat) : Int) by omega]
      exact q1
theorem m_bs38 (F : WF z) {k : Int} (hk : k = 0 ∨ k = 1) : ∀ (n d fu : Nat) (s : Int × Int) (h : HP), (d : Int) + n = z 185 → n < fu → okB2 s → RepM h 201 z → ∃ h', f_M_bestSwap_38 fu 200 (iI k) (iI s.1) (iI s.2) (iI d) h = some (iI (bsR k (bsO z n d s)), h') ∧ (∀ i, i ≠ 202 → i ≠ 207 → i ≠ 208 → i ≠ 209 → h' i = h i) := by
  obtain ⟨⟨w1, w2⟩, ⟨n1, n2⟩, -⟩ := id F
  intro n
  induction n with
  | zero =>
    intro d fu s h hd hfu hs R
    obtain ⟨fu, rfl⟩ : ∃ k, fu = k + 1 := ⟨fu - 1, by omega⟩
    obtain ⟨⟨s1, s2⟩, s3, s4⟩ := id hs
    refine ⟨h, ?_, fun _ _ _ _ _ => rfl⟩
    rw [f_M_bestSwap_38, ib_185, if_pos rfl, fA1, cl_185, R.c185, tLe (by omega) (by omega) (by omega) (by omega), if_pos (by omega), m1I, tEq (by omega) (by omega) (by omega) (by omega), lI0, tEq (by omega) (by omega) (by omega) (by omega)]
    show _ = some (iI (if s.1 = -1 then -1 else if k = 0 then s.1 else s.2), h)
    by_cases c2 : s.1 = -1
    · rw [if_pos c2, if_pos c2]
    · rw [if_neg c2, if_neg c2]
      by_cases c : k = 0
      · rw [if_pos c, if_pos c]
      · rw [if_neg c, if_neg c]
  | succ n ih =>
    intro d fu s h hd hfu hs R
    obtain ⟨fu, rfl⟩ : ∃ k, fu = k + 1 := ⟨fu - 1, by omega⟩
    obtain ⟨h1, k1, k2, k3⟩ := m_bs57 F (f_M_bestSwap_38 fu) (d := d) (by omega) (by omega) (iI k) n (d + 1) 4096 s h (by omega) (by omega) (by omega) hs R
    obtain ⟨h', q1, q2⟩ := ih (d + 1) fu _ h1 (by omega) (by omega) k2 (R.fr (k3 201 (by decide) (by decide) (by decide) (by decide)))
    refine ⟨h', ?_, fun i i1 i2 i3 i4 => by rw [q2 i i1 i2 i3 i4, k3 i i1 i2 i3 i4]⟩
    rw [f_M_bestSwap_38, ib_185, if_pos rfl, fA1, cl_185, R.c185, tLe (by omega) (by omega) (by omega) (by omega), if_neg (by omega), lI1, iI_add, show (d : Int) + 1 = ((d + 1 : Nat) : Int) by omega, k1, show (d : Int) + 1 = ((d + 1 : Nat) : Int) by omega]
    exact q1
theorem q_bestSwap (I : INV B h) (v : Int32) : Ans B h ["java/lang/IllegalArgumentException"] (fun h => f_F_bestSwap h 180 v) (fun h => f_M_bestSwap h 200 v) := by
  obtain ⟨z, MI⟩ := I.1
  obtain ⟨RA, RM, h13, K⟩ := id MI
  obtain ⟨S, R, RP, F⟩ := id RA
  obtain ⟨⟨w1, w2⟩, ⟨n1, n2⟩, -⟩ := id F
  obtain ⟨v, hv, rfl⟩ := i32 v
  have r := in32 h hv ⟨by decide, by decide⟩ ⟨by decide, by decide⟩ lI0 lI1
  have rm := fun g => in64 g hv ⟨by decide, by decide⟩ ⟨by decide, by decide⟩ l640 l641
  by_cases c : 0 ≤ v ∧ v ≤ 1
  · rw [if_pos c] at r
    simp only [if_pos c] at rm
    have hr := rts_b F
    have s0 : okB2 (-1, rtsZ z) := ⟨⟨by show (-1 : Int) ≤ -1; omega, by show (-1 : Int) ≤ 1000; omega⟩, hr⟩
    obtain ⟨h1, k1, k2⟩ := c_bs22 F (k := v) (by omega) (z 185).toNat 0 4096 (-1, rtsZ z) h (by omega) (by omega) s0 R
    refine Ans.q (x := iI (bsR v (bsO z (z 185).toNat 0 (-1, rtsZ z)))) (h1 := h1) I ?_ (QF.tr k2) (fun g q => ?_)
    · show f_F_bestSwap h 180 (iI v) = _
      unfold f_F_bestSwap
      rw [r, Option.bind_some, if_neg (by decide), f0, a_rents S R RP F, Option.bind_some, lI0, m1I]
      exact k1
    · have RG := MI.m0 q 0
      obtain ⟨h2, p1, p2⟩ := m_rents (Or.inl rfl) RG F
      obtain ⟨h3, p3, p4⟩ := m_bs38 F (k := v) (by omega) (z 185).toNat 0 4096 (-1, rtsZ z) h2 (by omega) (by omega) s0 (RG.fr (p2 201 (by decide) (by decide) (by decide)))
      show ∃ h2, f_M_bestSwap g 200 (iI v) = some (iI _, h2) ∧ QmA g h2
      unfold f_M_bestSwap
      rw [rm, Option.bind_some, if_neg (by decide), f_M_bestSwap_16, refused0, Option.bind_some]
      dsimp only
      rw [if_pos rfl, fA1, p1, Option.bind_some]
      dsimp only
      rw [m1I]
      refine ⟨h3, ?_, QmA.of (fun i i1 i2 i3 i4 => by rw [p4 i i1 i2 i3 i4, p2 i i2 i3 i4])⟩
      rw [show (0 : Int32) = iI 0 from lI0]
      exact p3
  · rw [if_neg c] at r
    simp only [if_neg c] at rm
    refine Ans.no (E := "java/lang/IllegalArgumentException") (j := 1) (v := 0) I ?_ (wr1 _ _) (by decide) ?_
    · show f_F_bestSwap h 180 (iI v) = _
      unfold f_F_bestSwap
      rw [r, Option.bind_some, if_pos rfl]
    · show f_M_bestSwap h 200 (iI v) = _
      unfold f_M_bestSwap
      rw [rm, Option.bind_some, if_pos rfl, f_M_bestSwap_16, refused1, Option.bind_some]
      dsimp only
      rw [if_neg (by decide)]
end BEST
