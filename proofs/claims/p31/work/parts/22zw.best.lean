/-! the law's calls: bestSwap -/
noncomputable def bsV (z : Nat → Int) (d e : Nat) : Int := if rsnS z d e = 0 then rtsZ (zsw z d e) else -1
noncomputable def bsN (z : Nat → Int) (d e : Nat) (s : Int × Int) : Int × Int := if s.2 < bsV z d e then (10 * (d : Int) + e, bsV z d e) else s
noncomputable def bsI (z : Nat → Int) (d : Nat) : Nat → Nat → Int × Int → Int × Int
  | 0, _, s => s
  | n + 1, e, s => bsI z d n (e + 1) (bsN z d e s)
noncomputable def bsO (z : Nat → Int) : Nat → Nat → Int × Int → Int × Int
  | 0, _, s => s
  | n + 1, d, s => bsO z n (d + 1) (bsI z d n (d + 1) s)
def bsR (k : Int) (s : Int × Int) : Int := if s.1 = -1 then -1 else if k = 0 then s.1 else s.2
def okB2 (s : Int × Int) : Prop := (-1 ≤ s.1 ∧ s.1 ≤ 1000) ∧ (0 ≤ s.2 ∧ s.2 ≤ 7000)
section BEST
variable {h g : HP} {a b p : Nat} {z u : Nat → Int} {B : Int}
theorem zsx_l (z : Nat → Int) (x y : Nat) : Lite (zsx z x y) (zsw z x y) := fun k h1 h2 _ => by
  unfold zsw
  exact uI_n _ _ (by omega)
theorem zsx_rts {x y : Nat} (F : WF (zsx z x y)) : rtsZ (zsw z x y) = rtsZ (zsx z x y) := (zsx_l z x y).rents F
theorem bs_b (F : WF z) {d e : Nat} (hd : d < 10) (h2 : (d : Int) < z 185) (he : e < 10) (h3 : (e : Int) < z 185) (hde : d ≠ e) : -1 ≤ bsV z d e ∧ bsV z d e ≤ 7000 := by
  unfold bsV
  split
  · rename_i c
    have := rts_b (zsw_wf F hd h2 he h3 hde c)
    omega
  · omega
theorem bs_ok (F : WF z) {d e : Nat} (hd : d < 10) (h2 : (d : Int) < z 185) (he : e < 10) (h3 : (e : Int) < z 185) (hde : d ≠ e) {s : Int × Int} (hs : okB2 s) : okB2 (bsN z d e s) := by
  have hb := bs_b F hd h2 he h3 hde
  obtain ⟨⟨s1, s2⟩, s3, s4⟩ := id hs
  unfold bsN
  split
  · refine ⟨?_, ?_⟩
    · show -1 ≤ 10 * (d : Int) + e ∧ 10 * (d : Int) + e ≤ 1000
      omega
    · show 0 ≤ bsV z d e ∧ bsV z d e ≤ 7000
      omega
  · exact hs
theorem S2 : FS 182 0 184 := Or.inl ⟨rfl, rfl, rfl⟩
theorem c_behind (R : RepS h 0 z) (F : WF z) {d e : Nat} (hd : d < 10) (h2 : (d : Int) < z 185) (he : e < 10) (h3 : (e : Int) < z 185) (hde : d ≠ e) : ∃ h', f_F_rentsBehindSwap h 180 (iI d) (iI e) = some (iI (bsV z d e), h') ∧ (∀ i, ¬ own 10 188 i → h' i = h i) := by
  have hb := rsnS_b z d e
  unfold f_F_rentsBehindSwap bsV
  rw [f0, a_swapR S2 R F hd h2 he h3 hde, Option.bind_some, lI0, tEq (by omega) (by omega) (by omega) (by omega)]
  by_cases c : rsnS z d e = 0
  · obtain ⟨h1, g1, g2, g3, g4⟩ := a_become S3 B0 (by decide) R F
    obtain ⟨h2', k1, k2, k3, k4⟩ := a_exchange g2 hd h2 he h3 hde
    rw [if_pos c] at k2
    rw [if_pos c, if_pos c, f183, show fld 182 0 = 0 from rfl, g1, Option.bind_some, k1, Option.bind_some]
    dsimp only
    rw [a_rents k2.1 k2.2.1 k2.2.2.1 k2.2.2.2, Option.bind_some]
    exact ⟨h2', rfl, fun i hi => by rw [k3 i hi, g4 i hi]⟩
  · rw [if_neg c, if_neg c, m1I]
    exact ⟨h, rfl, fun _ _ => rfl⟩
theorem c_bs43 (F : WF z) (k22 : Nat → Int32 → Int32 → Int32 → Int32 → HP → Option (Res × HP)) {d : Nat} (hd : d < 10) (h2 : (d : Int) < z 185) (x1 : Int32) : ∀ (n e fu : Nat) (s : Int × Int) (h : HP), (e : Int) + n = z 185 → n < fu → d < e → okB2 s → RepS h 0 z → ∃ h', f_F_bestSwap_43 k22 fu 180 x1 (iI s.1) (iI s.2) (iI d) (iI e) h = k22 180 x1 (iI (bsI z d n e s).1) (iI (bsI z d n e s).2) (iI ((d : Int) + 1)) h' ∧ okB2 (bsI z d n e s) ∧ (∀ i, ¬ own 10 188 i → h' i = h i) := by
  obtain ⟨⟨w1, w2⟩, ⟨n1, n2⟩, -⟩ := id F
  intro n
  induction n with
  | zero =>
    intro e fu s h he hfu hlt hs R
    obtain ⟨fu, rfl⟩ : ∃ k, fu = k + 1 := ⟨fu - 1, by omega⟩
    refine ⟨h, ?_, hs, fun _ _ => rfl⟩
    rw [f_F_bestSwap_43, f00, R.nd, tLe (by omega) (by omega) (by omega) (by omega), if_pos (by omega), lI1, iI_add]
    rfl
  | succ n ih =>
    intro e fu s h he hfu hlt hs R
    obtain ⟨fu, rfl⟩ : ∃ k, fu = k + 1 := ⟨fu - 1, by omega⟩
    obtain ⟨h1, k1, k2⟩ := c_behind R F hd h2 (e := e) (by omega) (by omega) (by omega)
    have hb := bs_b F hd h2 (e := e) (by omega) (by omega) (by omega)
    have hs' := bs_ok F hd h2 (e := e) (by omega) (by omega) (by omega) hs
    obtain ⟨h', q1, q2, q3⟩ := ih (e + 1) fu (bsN z d e s) h1 (by omega) (by omega) (by omega) hs' (R.fr (fun i _ i2 => k2 i (fun q => by unfold own at q; omega)))
    refine ⟨h', ?_, q2, fun i hi => by rw [q3 i hi, k2 i hi]⟩
    obtain ⟨⟨s1, s2⟩, s3, s4⟩ := id hs
    rw [f_F_bestSwap_43, f00, R.nd, tLe (by omega) (by omega) (by omega) (by omega), if_neg (by omega), k1, Option.bind_some]
    dsimp only
    rw [tLe (by omega) (by omega) (by omega) (by omega), f_F_bestSwap_86, f_F_bestSwap_86, lI10, lI1, iI_mul, iI_add, iI_add, show (e : Int) + 1 = ((e + 1 : Nat) : Int) by omega]
    show _ = k22 180 x1 (iI (bsI z d n (e + 1) (bsN z d e s)).1) (iI (bsI z d n (e + 1) (bsN z d e s)).2) (iI ((d : Int) + 1)) h'
    rw [← q1]
    by_cases c : bsV z d e ≤ s.2
    · have ee : bsN z d e s = s := if_neg (by omega)
      rw [if_pos c, ee]
    · have ee : bsN z d e s = (10 * (d : Int) + e, bsV z d e) := if_pos (by omega)
      rw [if_neg c, ee]
theorem c_bs22 (F : WF z) {k : Int} (hk : k = 0 ∨ k = 1) : ∀ (n d fu : Nat) (s : Int × Int) (h : HP), (d : Int) + n = z 185 → n < fu → okB2 s → RepS h 0 z → ∃ h', f_F_bestSwap_22 fu 180 (iI k) (iI s.1) (iI s.2) (iI d) h = some (.inl (some (.int (iI (bsR k (bsO z n d s))))), h') ∧ (∀ i, ¬ own 10 188 i → h' i = h i) := by
  obtain ⟨⟨w1, w2⟩, ⟨n1, n2⟩, -⟩ := id F
  intro n
  induction n with
  | zero =>
    intro d fu s h hd hfu hs R
    obtain ⟨fu, rfl⟩ : ∃ k, fu = k + 1 := ⟨fu - 1, by omega⟩
    obtain ⟨⟨s1, s2⟩, s3, s4⟩ := id hs
    refine ⟨h, ?_, fun _ _ => rfl⟩
    rw [f_F_bestSwap_22, f00, R.nd, tLe (by omega) (by omega) (by omega) (by omega), if_pos (by omega), lI0, tEq (by omega) (by omega) (by omega) (by omega), m1I, tEq (by omega) (by omega) (by omega) (by omega), f_F_bestSwap_107]
    show _ = some (Sum.inl (some (Value.int (iI (if s.1 = -1 then -1 else if k = 0 then s.1 else s.2)))), h)
    by_cases c : k = 0
    · rw [if_pos c]
      by_cases c2 : s.1 = -1
      · rw [if_pos c2, c2]
      · rw [if_neg c2, if_pos c]
    · rw [if_neg c]
      by_cases c2 : s.1 = -1
      · rw [if_pos c2, if_pos c2, c2]
      · rw [if_neg c2, if_neg c2, if_neg c]
  | succ n ih =>
    intro d fu s h hd hfu hs R
    obtain ⟨fu, rfl⟩ : ∃ k, fu = k + 1 := ⟨fu - 1, by omega⟩
    obtain ⟨h1, k1, k2, k3⟩ := c_bs43 F (f_F_bestSwap_22 fu) (d := d) (by omega) (by omega) (iI k) n (d + 1) 4096 s h (by omega) (by omega) (by omega) hs R
    obtain ⟨h', q1, q2⟩ := ih (d + 1) fu _ h1 (by omega) (by omega) k2 (R.fr (fun i _ i2 => k3 i (fun q => by unfold own at q; omega)))
    refine ⟨h', ?_, fun i hi => by rw [q2 i hi, k3 i hi]⟩
    rw [f_F_bestSwap_22, f00, R.nd, tLe (by omega) (by omega) (by omega) (by omega), if_neg (by omega), lI1, iI_add, show (d : Int) + 1 = ((d + 1 : Nat) : Int) by omega, k1, show (d : Int) + 1 = ((d + 1 : Nat) : Int) by omega]
    exact q1
end BEST
