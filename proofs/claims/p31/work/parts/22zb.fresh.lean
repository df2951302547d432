/-! a fair anew, on both sides; the owed sums -/
def zini : Nat → Int := uI (uI (uI (uI (uI (uI (fun _ => 0) 190 6) 191 1) 192 5) 193 3) 194 4) 195 2
def owsZ (z : Nat → Int) : Int := sm (fun d => z (129 + 6 * d)) (z 185).toNat 0
def OKz (B : Int) (z : Nat → Int) : Prop := WF z ∧ WO B z ∧ z 189 = owsZ z
section FRESH
variable {h : HP} {a b p : Nat} {z z' : Nat → Int} {B : Int}
theorem zini_0 {k : Nat} (h : k < 190) : zini k = 0 := by
  unfold zini
  rw [uI_n _ _ (by omega), uI_n _ _ (by omega), uI_n _ _ (by omega), uI_n _ _ (by omega), uI_n _ _ (by omega), uI_n _ _ (by omega)]
theorem zini_wf : WF zini := by
  refine ⟨by rw [zini_0 (by decide)]; omega, by rw [zini_0 (by decide)]; omega, by rw [zini_0 (by decide)]; omega, fun w hw => by rw [zini_0 (by omega)]; omega, fun w m hw hm => by rw [zini_0 (by omega)]; omega, fun d hd => ?_, fun d hd h2 => ?_, fun d e hd he hde h2 => ?_, fun j hj => ?_, by decide⟩
  · rw [zini_0 (k := 185) (by omega), zini_0 (k := 124 + 6 * d) (by omega), zini_0 (k := 125 + 6 * d) (by omega), zini_0 (k := 126 + 6 * d) (by omega)]
    omega
  · rw [zini_0 (k := 185) (by omega)] at h2; omega
  · rw [zini_0 (k := 185) (by omega)] at h2; omega
  · rcases (by omega : j = 0 ∨ j = 1 ∨ j = 2 ∨ j = 3 ∨ j = 4 ∨ j = 5) with rfl | rfl | rfl | rfl | rfl | rfl <;> decide
theorem zini_ok (h : 0 ≤ B) : OKz B zini := by
  refine ⟨zini_wf, fun d hd => ?_, ?_⟩
  · rw [zini_0 (by omega)]; exact ⟨by omega, h, fun _ => rfl⟩
  · unfold owsZ
    rw [zini_0 (k := 185) (by omega), zini_0 (k := 189) (by omega)]
    rfl
theorem s_clear : ∃ h' : HP, f_S_clear h 0 = some h' ∧ RepS h' 0 zini ∧ h' 0 13 = iI 0 ∧ ∀ i, ¬ i < 10 → h' i = h i := by
  unfold f_S_clear f_R_fill
  simp only [Option.bind_some]
  have f : ∀ k, fld 0 k = 1 + k := fun k => by rw [BS.fld (b := 0) ⟨by decide, by decide⟩]
  rw [f 0, f 1, f 2, f 3, f 4, f 5, f 6, f 7, f 8]
  refine ⟨_, rfl, ⟨⟨rfl, rfl, rfl, rfl⟩, fun w hw => ?_, fun w m hw hm => ?_, fun d k hd h2 hk => ?_, fun j hj => ?_⟩, rfl, fun i hi => ?_⟩
  · rw [zini_0 (by omega)]
    rw [hset_n _ _ _ (by omega), hset_n _ _ _ (by omega), hset_n _ _ _ (by omega), hset_n _ _ _ (by omega), hset_n _ _ _ (by omega), hrow_n _ _ (by omega), hrow_n _ _ (by omega), hrow_n _ _ (by omega), hrow_n _ _ (by omega), hrow_n _ _ (by omega), hrow_n _ _ (by omega), hrow_n _ _ (by omega), hrow_n _ _ (by omega)]
    rw [show (0 + 1 : Nat) = 1 + 0 from rfl, hrow_s]
    exact (if_pos hw).trans lI0
  · rw [zini_0 (by omega)]
    rw [hset_n _ _ _ (by omega), hset_n _ _ _ (by omega), hset_n _ _ _ (by omega), hset_n _ _ _ (by omega), hset_n _ _ _ (by omega), hrow_n _ _ (by omega), hrow_n _ _ (by omega), hrow_n _ _ (by omega), hrow_n _ _ (by omega), hrow_n _ _ (by omega), hrow_n _ _ (by omega), hrow_n _ _ (by omega)]
    rw [show (0 + 2 : Nat) = 1 + 1 from rfl, hrow_s]
    have c : 30 * w + m < 120 := by omega
    exact (if_pos c).trans lI0
  · rw [zini_0 (by decide)] at h2; omega
  · rw [hset_n _ _ _ (by omega), hset_n _ _ _ (by omega), hset_n _ _ _ (by omega), hset_n _ _ _ (by omega), hset_n _ _ _ (by omega)]
    rw [show (0 + 9 : Nat) = 1 + 8 from rfl, hrow_s]
    unfold cpy0
    rw [if_pos hj]
    rcases (by omega : j = 0 ∨ j = 1 ∨ j = 2 ∨ j = 3 ∨ j = 4 ∨ j = 5) with rfl | rfl | rfl | rfl | rfl | rfl <;> rfl
  · rw [hset_n _ _ _ (by omega), hset_n _ _ _ (by omega), hset_n _ _ _ (by omega), hset_n _ _ _ (by omega), hset_n _ _ _ (by omega), hrow_n _ _ (by omega), hrow_n _ _ (by omega), hrow_n _ _ (by omega), hrow_n _ _ (by omega), hrow_n _ _ (by omega), hrow_n _ _ (by omega), hrow_n _ _ (by omega), hrow_n _ _ (by omega), hrow_n _ _ (by omega)]
theorem a_startAnew : ∃ h' : HP, f_A_startAnew h 182 = some h' ∧ RepA h' 182 0 184 zini ∧ h' 0 13 = iI 0 ∧ ∀ i, ¬ own 0 184 i → h' i = h i := by
  obtain ⟨h1, g1, g2, g3, g4⟩ := s_clear (h := h)
  have S : FS 182 0 184 := Or.inl ⟨rfl, rfl, rfl⟩
  obtain ⟨h2, q1, q2, q3⟩ := a_anew S g2 zini_wf
  unfold f_A_startAnew
  rw [S.f0, S.f1, g1, Option.bind_some, q1, Option.bind_some]
  exact ⟨h2, rfl, q2, by rw [q3 0 (by omega)]; exact g3, fun i hi => by rw [q3 i (fun q => hi (Or.inr q)), g4 i (fun q => hi (Or.inl (by omega)))]⟩
/-! the owed sums follow -/
theorem OKz.mono {B' : Int} (K : OKz B z) (h : B ≤ B') : OKz B' z := ⟨K.1, fun d hd => by have := K.2.1 d hd; exact ⟨this.1, by omega, this.2.2⟩, K.2.2⟩
theorem OKz.keep (K : OKz B z) (F : WF z') (e : ∀ d : Nat, d < 10 → z' (129 + 6 * d) = z (129 + 6 * d)) (e1 : z' 185 = z 185) (e2 : z' 189 = z 189) : OKz B z' := by
  obtain ⟨-, ⟨n1, n2⟩, -⟩ := id K.1
  refine ⟨F, fun d hd => by rw [e d hd, e1]; exact K.2.1 d hd, ?_⟩
  rw [e2, K.2.2]
  unfold owsZ
  rw [e1]
  exact sm_congr _ _ (fun k h1 h2 => (e k (by omega)).symm)
theorem OKz.st (K : OKz B z) {d : Nat} (hd : d < 10) {w f : Int} (F : WF (zst z d w f)) : OKz B (zst z d w f) := K.keep F (fun e he => zst_n z d w f (by omega) (by omega)) (zst_n z d w f (by omega) (by omega)) (zst_n z d w f (by omega) (by omega))
theorem OKz.u (K : OKz B z) {k : Nat} {v : Int} (F : WF (uI z k v)) (hk : k ≠ 185 ∧ k ≠ 189 ∧ (k < 124 ∨ 184 ≤ k ∨ k % 6 ≠ 3)) : OKz B (uI z k v) := K.keep F (fun e he => uI_n _ _ (by omega)) (uI_n _ _ (by omega)) (uI_n _ _ (by omega))
theorem OKz.sw (K : OKz B z) {x y : Nat} (hx : x < 10) (hy : y < 10) (F : WF (zsw z x y)) : OKz B (zsw z x y) := by
  have n : ∀ k : Nat, k ≠ 187 → k ≠ 127 + 6 * x → k ≠ 128 + 6 * x → k ≠ 127 + 6 * y → k ≠ 128 + 6 * y → zsw z x y k = z k := fun k h0 h1 h2 h3 h4 => by
    unfold zsw zsx
    rw [uI_n _ _ h0, zst_n _ _ _ _ h3 h4, zst_n _ _ _ _ h1 h2]
  exact K.keep F (fun e he => n _ (by omega) (by omega) (by omega) (by omega) (by omega)) (n _ (by omega) (by omega) (by omega) (by omega) (by omega)) (n _ (by omega) (by omega) (by omega) (by omega) (by omega))
theorem wf_188 (F : WF z) (v : Int) : WF (uI z 188 v) := by
  have L : Lite z (uI z 188 v) := fun k h1 h2 _ => uI_n _ _ (by omega)
  exact L.wf F (by rw [uI_n _ _ (by decide)]; exact F.2.2.1)
theorem OKz.rf (K : OKz B z) (v : Int) : OKz B (uI z 188 v) := K.u (wf_188 K.1 v) (by decide)
theorem OKz.wl (K : OKz B z) (h4 : z 184 < 4) {v : Int} (hv : 4 ≤ v ∧ v ≤ 30) : OKz B (zwl z v) := by
  have F := wf_wall K.1 h4 hv
  obtain ⟨⟨w1, w2⟩, -⟩ := id K.1
  exact K.keep F (fun e he => zwl_n K.1 h4 v (by omega) (by omega)) (zwl_n K.1 h4 v (by omega) (by omega)) (zwl_n K.1 h4 v (by omega) (by omega))
theorem OKz.o0 (K : OKz B z) (h10 : z 185 < 10) : z (129 + 6 * (z 185).toNat) = 0 := by
  obtain ⟨-, ⟨n1, n2⟩, -⟩ := id K.1
  exact (K.2.1 (z 185).toNat (by omega)).2.2 (by omega)
theorem OKz.dl (K : OKz B z) (h10 : z 185 < 10) {g f w : Int} (hg : 0 ≤ g ∧ g ≤ 5) (hf : 1 ≤ f ∧ f ≤ 9) (hw : 0 ≤ w ∧ w ≤ 3) : OKz B (zdl z g f w) := by
  obtain ⟨-, ⟨n1, n2⟩, -⟩ := id K.1
  have e : ∀ d : Nat, d < 10 → zdl z g f w (129 + 6 * d) = z (129 + 6 * d) := fun d hd => zdl_n z g f w (by omega) (by omega)
  refine ⟨wf_dealer K.1 h10 hg hf hw, fun d hd => ?_, ?_⟩
  · rw [e d hd, zdl_185]
    have := K.2.1 d hd
    exact ⟨this.1, this.2.1, fun q => this.2.2 (by omega)⟩
  · rw [zdl_n z g f w (by omega) (by omega), K.2.2]
    unfold owsZ
    rw [zdl_185, show (z 185 + 1).toNat = (z 185).toNat + 1 by omega, sm_app]
    have e1 : sm (fun d => zdl z g f w (129 + 6 * d)) (z 185).toNat 0 = sm (fun d => z (129 + 6 * d)) (z 185).toNat 0 := sm_congr _ _ (fun k h1 h2 => e k (by omega))
    have e2 : sm (fun d => zdl z g f w (129 + 6 * d)) 1 (0 + (z 185).toNat) = 0 := by
      show zdl z g f w (129 + 6 * (0 + (z 185).toNat)) + 0 = 0
      rw [Nat.zero_add, e _ (by omega), K.o0 h10]
      rfl
    rw [e1, e2, Int.add_zero]
theorem sm_lin (G G' : Nat → Int) (c : Int) : ∀ n i : Nat, sm (fun d => G d + c * G' d) n i = sm G n i + c * sm G' n i := by
  intro n
  induction n with
  | zero => intro i; show (0 : Int) = 0 + c * 0; rw [Int.mul_zero]; rfl
  | succ n ih =>
    intro i
    show G i + c * G' i + sm (fun d => G d + c * G' d) n (i + 1) = G i + sm G n (i + 1) + c * (G' i + sm G' n (i + 1))
    rw [ih, Int.mul_add]
    omega
theorem OKz.dy (K : OKz B z) {n : Nat} (hn : n ≤ 60) : OKz (B + 42000) (zdy z n) := by
  obtain ⟨-, ⟨n1, n2⟩, -⟩ := id K.1
  have L := zdy_l z n
  have e185 : zdy z n 185 = z 185 := L 185 (by omega) (by omega) (by omega)
  have eo : ∀ i : Nat, i < 186 → zdy z n i = dyA z n (z 185).toNat i := fun i hi => by
    unfold zdy dysZ
    rw [uI_n _ _ (by omega), uI_n _ _ (by omega), uI_n _ _ (by omega)]
  refine ⟨zdy_w K.1 n, fun d hd => ?_, ?_⟩
  · rw [eo _ (by omega), e185]
    have := K.2.1 d hd
    by_cases c : d < (z 185).toNat
    · rw [dyA_y z n hd c]
      have hr := rent_b K.1 hd
      have := mulb (a := (n : Int)) (A := 60) (by omega) (by omega) hr.1 hr.2
      exact ⟨by omega, by omega, fun q => by omega⟩
    · rw [dyA_o z n hd (by omega)]
      exact ⟨by omega, by omega, fun q => this.2.2 q⟩
  · have e1 : zdy z n 189 = z 189 + n * rtsZ z := uI_s _ _ _
    rw [e1, K.2.2]
    unfold owsZ
    rw [e185]
    have e2 : sm (fun d => zdy z n (129 + 6 * d)) (z 185).toNat 0 = sm (fun d => z (129 + 6 * d) + n * rentZ z d) (z 185).toNat 0 := sm_congr _ _ (fun k h1 h2 => by
      show zdy z n (129 + 6 * k) = _
      rw [eo _ (by omega), dyA_y z n (by omega) (by omega)])
    rw [e2, sm_lin]
    rfl
end FRESH
