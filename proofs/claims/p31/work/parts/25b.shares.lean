/-! what the share keeps: plugs that are had are there and near, and they add up -/
def smT (s : Pw) : Int := sm (fun w => sm (fun m => s.1 (30 * w + m)) 30 0) 4 0
def SI (z : Nat → Int) (s : Pw) : Prop :=
  (∀ w m : Nat, w < 4 → m < 30 → 0 ≤ s.1 (30 * w + m) ∧ s.1 (30 * w + m) ≤ z (31 * w + 1 + m) ∧ (z 184 ≤ (w : Int) → s.1 (30 * w + m) = 0)) ∧
  smT s = sm (fun d => s.2.1 d) 10 0 ∧
  (∀ d k : Nat, d < 10 → k < 3 → (k : Int) < s.2.1 d → z (128 + 6 * d) - z 191 ≤ s.2.2 (3 * d + k) ∧ s.2.2 (3 * d + k) ≤ z (128 + 6 * d) + z (125 + 6 * d) - 1 + z 191 ∧ 0 ≤ s.2.2 (3 * d + k)) ∧
  (∀ d : Nat, 0 ≤ s.2.1 d) ∧ ∀ d : Nat, d < 10 → z (127 + 6 * d) = -1 → s.2.1 d = 0
section SHARES
variable {z : Nat → Int}
theorem smT_upd {s : Pw} {W R : Nat} {V : Int} {q : (Nat → Int) × (Nat → Int)} (hW : W < 4) (hR : R < 30) : smT (uI s.1 (30 * W + R) V, q) = smT s + (V - s.1 (30 * W + R)) := by
  have e : ∀ w : Nat, w < 4 → sm (fun m => uI s.1 (30 * W + R) V (30 * w + m)) 30 0 = sm (fun m => s.1 (30 * w + m)) 30 0 + (if w = W then V - s.1 (30 * W + R) else 0) := by
    intro w hw
    by_cases c : w = W
    · subst c
      rw [if_pos rfl, sm_congr (G' := uI (fun m => s.1 (30 * w + m)) R V) 30 0 (fun k _ _ => by
        by_cases q : k = R
        · subst q; rw [uI_s, uI_s]
        · rw [uI_n _ _ (by omega), uI_n _ _ q]), sm_upd, if_pos (by omega)]
    · rw [if_neg c, sm_congr (G' := fun m => s.1 (30 * w + m)) 30 0 (fun k _ k2 => uI_n _ _ (by omega))]
      omega
  unfold smT
  show sm (fun w => sm (fun m => uI s.1 (30 * W + R) V (30 * w + m)) 30 0) 4 0 = _
  rw [sm_congr (G' := fun w => sm (fun m => s.1 (30 * w + m)) 30 0 + (if w = W then V - s.1 (30 * W + R) else 0)) 4 0 (fun w _ hw => e w (by omega)), sm_add, sm_one (k0 := W) (G := fun w => if w = W then V - s.1 (30 * W + R) else 0) 4 0 (by omega) (by omega) (fun k _ _ n => if_neg n)]
  rw [if_pos rfl]
theorem SI.tb {s : Pw} (I : SI z s) (F : WF z) : TB s.1 := by
  intro i hi
  have h := I.1 (i / 30) (i % 30) (by omega) (by omega)
  have p := F.2.2.2.2.1 (i / 30) (i % 30) (by omega) (by omega)
  rw [show 30 * (i / 30) + i % 30 = i by omega] at h
  omega
theorem plug_SI (F : WF z) {s : Pw} (I : SI z s) {d : Nat} (hd : d < 10) (h2 : (d : Int) < z 185) (hst : z (127 + 6 * d) ≠ -1) (h3 : s.2.1 d < 3) {r : Int} (hr : nearZ z s.1 d = r) (hN : IsNear z s.1 d r) (hr1 : r ≠ -1) : SI z (plugZ z d s) := by
  obtain ⟨i1, i2, i3, i4, i5⟩ := I
  have hW := F.wall hd h2
  have hS := F.2.2.2.2.2.2.1 d hd h2
  have hL := F.2.2.2.1 (z (127 + 6 * d)).toNat (by omega)
  have hwl := F.1
  obtain ⟨W, hWe⟩ : ∃ W : Nat, z (127 + 6 * d) = W := ⟨(z (127 + 6 * d)).toNat, by omega⟩
  rcases hN with ⟨q, -⟩ | ⟨⟨f1, f2, f3⟩, g1, -⟩
  · exact absurd q hr1
  rw [hWe] at f2 f3 hL
  rw [show ((W : Int)).toNat = W by omega] at f2 f3 hL
  have h0 := i4 d
  have hRn : r.toNat < 30 := by omega
  have e1 : plugZ z d s = (uI s.1 (30 * W + r.toNat) (s.1 (30 * W + r.toNat) + 1), uI s.2.1 d (s.2.1 d + 1), uI s.2.2 (3 * d + (s.2.1 d).toNat) r) := by
    unfold plugZ
    rw [hr, hWe, show ((W : Int)).toNat = W by omega]
  rw [e1]
  refine ⟨fun w m hw hm => ?_, ?_, fun e k he hk hlt => ?_, fun e => ?_, fun e he hz => ?_⟩
  · show 0 ≤ uI s.1 (30 * W + r.toNat) (s.1 (30 * W + r.toNat) + 1) (30 * w + m) ∧ uI s.1 (30 * W + r.toNat) (s.1 (30 * W + r.toNat) + 1) (30 * w + m) ≤ z (31 * w + 1 + m) ∧ (z 184 ≤ (w : Int) → uI s.1 (30 * W + r.toNat) (s.1 (30 * W + r.toNat) + 1) (30 * w + m) = 0)
    have q := i1 w m hw hm
    by_cases c : 30 * w + m = 30 * W + r.toNat
    · have c1 : w = W := by omega
      have c2 : m = r.toNat := by omega
      subst c1
      subst c2
      rw [uI_s]
      refine ⟨by omega, by omega, fun hh => by omega⟩
    · rw [uI_n _ _ c]
      exact q
  · rw [smT_upd (by omega) hRn, i2]
    show _ = sm (uI s.2.1 d (s.2.1 d + 1)) 10 0
    rw [sm_upd, if_pos (by omega)]
    have ee : sm (fun d => s.2.1 d) 10 0 = sm s.2.1 10 0 := rfl
    omega
  · have hlt : (k : Int) < uI s.2.1 d (s.2.1 d + 1) e := hlt
    show z (128 + 6 * e) - z 191 ≤ uI s.2.2 (3 * d + (s.2.1 d).toNat) r (3 * e + k) ∧ uI s.2.2 (3 * d + (s.2.1 d).toNat) r (3 * e + k) ≤ z (128 + 6 * e) + z (125 + 6 * e) - 1 + z 191 ∧ 0 ≤ uI s.2.2 (3 * d + (s.2.1 d).toNat) r (3 * e + k)
    by_cases c : 3 * e + k = 3 * d + (s.2.1 d).toNat
    · have c1 : e = d := by omega
      subst c1
      rw [c, uI_s]
      have fq := (F.2.2.2.2.2.1 e (by omega)).2.1 h2
      have gq : 0 ≤ z 191 := (F.2.2.2.2.2.2.2.2.1 1 (by omega)).1
      unfold dst at g1
      split at g1
      · omega
      · split at g1
        · have := F.2.2.2.2.2.2.2.2.1 1 (by omega)
          have : 0 ≤ z 191 := this.1
          omega
        · omega
    · rw [uI_n _ _ c]
      by_cases c2 : e = d
      · subst c2
        rw [uI_s] at hlt
        exact i3 e k he hk (by omega)
      · rw [uI_n _ _ c2] at hlt
        exact i3 e k he hk hlt
  · show 0 ≤ uI s.2.1 d (s.2.1 d + 1) e
    by_cases c : e = d
    · subst c
      rw [uI_s]
      omega
    · rw [uI_n _ _ c]
      exact i4 e
  · show uI s.2.1 d (s.2.1 d + 1) e = 0
    by_cases c : e = d
    · subst c
      exact absurd hz hst
    · rw [uI_n _ _ c]
      exact i5 e he hz
theorem serve_SI (F : WF z) {d : Nat} (hd : d < 10) (h2 : (d : Int) < z 185) (hst : z (127 + 6 * d) ≠ -1) : ∀ (n : Nat) (s : Pw), SI z s → s.2.1 d + n ≤ 3 → SI z (serveZ z d n s) := by
  intro n
  induction n with
  | zero => intro s I _; exact I
  | succ n ih =>
    intro s I h3
    rw [serveZ]
    by_cases c : nearZ z s.1 d = -1
    · rw [if_pos c]; exact I
    · rw [if_neg c]
      obtain ⟨r, hr⟩ := near_ex F (I.tb F) hd h2 hst
      refine ih _ (plug_SI F I hd h2 hst (by omega) rfl (nearZ_is hr) c) ?_
      show uI s.2.1 d (s.2.1 d + 1) d + n ≤ 3
      rw [uI_s]
      omega
theorem share_SI (F : WF z) : ∀ d : Nat, (d : Int) ≤ z 185 → SI z (shareTo z d) := by
  have hn := F.2.1
  intro d
  induction d with
  | zero =>
    intro _
    refine ⟨fun w m hw hm => ⟨Int.le_refl _, (F.2.2.2.2.1 w m hw hm).1, fun _ => rfl⟩, ?_, fun d k _ _ h => ?_, fun _ => Int.le_refl _, fun _ _ _ => rfl⟩
    · rfl
    · have h : (k : Int) < 0 := h
      omega
  | succ d ih =>
    intro hd
    rw [shareTo]
    by_cases c : z (127 + 6 * d) = -1
    · rw [if_pos c]; exact ih (by omega)
    · rw [if_neg c]
      have i1 := share_inv F d (by omega)
      have hw := F.2.2.2.2.2.1 d (by omega)
      refine serve_SI F (by omega) (by omega) c _ _ (ih (by omega)) ?_
      rw [i1.2.1 d (Nat.le_refl _)]
      omega
theorem sh_SI (F : WF z) : SI z (shareZ z) := share_SI F _ (by have := F.2.1; omega)
theorem sh_had (F : WF z) {d : Nat} (hd : d < 10) : 0 ≤ (shareZ z).2.1 d ∧ (shareZ z).2.1 d ≤ z (126 + 6 * d) := by
  have h := (share_inv F (z 185).toNat (by have := F.2.1; omega)).2.2 d
  exact ⟨h.1, h.2.2 hd⟩
/-- what is had is what is taken -/
theorem had_tot (F : WF z) : sm (fun w => hadZ z w) (z 184).toNat 0 = hdtZ z := by
  have I := sh_SI F
  have hw := F.1
  have hn := F.2.1
  have e1 : sm (fun w => hadZ z w) 4 0 = sm (fun w => hadZ z w) (z 184).toNat 0 := by
    obtain ⟨r, hr⟩ : ∃ r, 4 = (z 184).toNat + r := ⟨4 - (z 184).toNat, by omega⟩
    rw [hr, sm_app, sm_0 _ r _ (fun w w1 w2 => ?_)]
    · omega
    · rw [← had_30 F (by omega)]
      exact sm_0 _ 30 0 (fun m _ m2 => (I.1 w m (by omega) (by omega)).2.2 (by omega))
  have e2 : sm (fun d => (shareZ z).2.1 d) 10 0 = hdtZ z := by
    obtain ⟨r, hr⟩ : ∃ r, 10 = (z 185).toNat + r := ⟨10 - (z 185).toNat, by omega⟩
    rw [hr, sm_app, sm_0 (fun d => (shareZ z).2.1 d) r _ (fun d d1 d2 => (share_inv F (z 185).toNat (by omega)).2.1 d (by omega))]
    unfold hdtZ
    omega
  rw [← e1, ← e2, ← I.2.1]
  unfold smT
  exact sm_congr 4 0 (fun w _ w2 => (had_30 F (by omega)).symm)
end SHARES
