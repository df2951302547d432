/-! the nearest free plug -/
def RepT (h : HP) (t : Nat) (T : Nat → Int) : Prop := ∀ i : Nat, i < 120 → h t i = iI (T i)
def TB (T : Nat → Int) : Prop := ∀ i : Nat, i < 120 → 0 ≤ T i ∧ T i ≤ 1000
abbrev fre (z T : Nat → Int) (w : Nat) (m : Int) : Prop := 0 ≤ m ∧ m < z (31 * w) ∧ T (30 * w + m.toNat) < z (31 * w + 1 + m.toNat)
def dst (z : Nat → Int) (d : Nat) (m : Int) : Int := if m < z (128 + 6 * d) then z (128 + 6 * d) - m else if m ≤ z (128 + 6 * d) + z (125 + 6 * d) - 1 then 0 else m - (z (128 + 6 * d) + z (125 + 6 * d) - 1)
def IsNear (z T : Nat → Int) (d : Nat) (r : Int) : Prop :=
  (r = -1 ∧ ∀ m, fre z T (z (127 + 6 * d)).toNat m → z 191 < dst z d m) ∨
  (fre z T (z (127 + 6 * d)).toNat r ∧ dst z d r ≤ z 191 ∧ ∀ m, fre z T (z (127 + 6 * d)).toNat m → dst z d r < dst z d m ∨ (dst z d r = dst z d m ∧ r ≤ m))
theorem IsNear.eq {z T : Nat → Int} {d : Nat} {r s : Int} (h1 : IsNear z T d r) (h2 : IsNear z T d s) : r = s := by
  rcases h1 with ⟨a1, a2⟩ | ⟨a1, a2, a3⟩ <;> rcases h2 with ⟨b1, b2⟩ | ⟨b1, b2, b3⟩
  · omega
  · have := a2 s b1
    omega
  · have := b2 r a1
    omega
  · have := a3 s b1
    have := b3 r a1
    omega
def PS (p : Nat) : Prop := p = 184 ∨ p = 188
theorem PS.f0 {p : Nat} (h : PS p) : fld p 0 = p + 1 := by rcases h with rfl | rfl <;> rfl
theorem PS.f1 {p : Nat} (h : PS p) : fld p 1 = p + 2 := by rcases h with rfl | rfl <;> rfl
theorem PS.f2 {p : Nat} (h : PS p) : fld p 2 = p + 3 := by rcases h with rfl | rfl <;> rfl
section NEAR
variable {h : HP} {b p : Nat} {z T : Nat → Int}
theorem w_free (R : RepS h b z) (B : BS b) (F : WF z) (P : PS p) (RT : RepT h (p + 1) T) (HT : TB T) {w : Nat} (hw : w < 4) {m : Int} (hm : InR m) : f_W_hasFreePlug h p b (iI w) (iI m) = some (if fre z T w m then 1 else 0) := by
  obtain ⟨m1, m2⟩ := hm
  obtain ⟨-, -, -, hl, hp, -⟩ := id F
  have hL := hl w hw
  have e1 : (iI (w : Int)).toNatClampNeg = w := by rw [iI_cl (by omega) (by omega)]; omega
  have e2 : ib (iI (w : Int)) 4 = true := iI_ib (by omega) (by omega) (by omega)
  have q1 : ¬ iI (w : Int) < 0 := by rw [lI0, iI_lt (by omega) (by omega) (by omega) (by omega)]; omega
  have q2 : ¬ (4 : Int32) ≤ iI (w : Int) := by rw [lI4, iI_le (by omega) (by omega) (by omega) (by omega)]; omega
  unfold f_W_hasFreePlug f_W_hasFreePlug_33
  rw [if_neg q1, if_neg q2, e1, e2, B.fld, R.len hw]
  by_cases c1 : m < 0
  · have q3 : iI m < 0 := by rw [lI0, iI_lt (by omega) (by omega) (by omega) (by omega)]; omega
    rw [if_pos q3, if_neg (fun q => by have := q.1; omega)]
    unfold f_W_hasFreePlug_34
    rw [if_pos rfl]
  · have q3 : ¬ iI m < 0 := by rw [lI0, iI_lt (by omega) (by omega) (by omega) (by omega)]; omega
    rw [if_neg q3, if_pos rfl]
    by_cases c2 : z (31 * w) ≤ m
    · have q4 : iI (z (31 * w)) ≤ iI m := by rw [iI_le (by omega) (by omega) (by omega) (by omega)]; omega
      rw [if_pos q4, if_neg (fun q => by have := q.2.1; omega)]
      unfold f_W_hasFreePlug_34
      rw [if_pos rfl]
    · have q4 : ¬ iI (z (31 * w)) ≤ iI m := by rw [iI_le (by omega) (by omega) (by omega) (by omega)]; omega
      have q5 : ¬ (30 : Int32) ≤ iI m := by rw [lI30, iI_le (by omega) (by omega) (by omega) (by omega)]; omega
      have hP := hp w m.toNat hw (by omega)
      have hTT := HT (30 * w + m.toNat) (by omega)
      rw [if_neg q4, if_neg q5]
      unfold f_W_hasFreePlug_34
      rw [if_neg (by decide), lI30, iI_mul, iI_add]
      have e3 : (iI ((w : Int) * 30 + m)).toNatClampNeg = 30 * w + m.toNat := by
        rw [iI_cl (by omega) (by omega)]
        omega
      have e4 : ib (iI ((w : Int) * 30 + m)) 120 = true := iI_ib (by omega) (by omega) (by omega)
      rw [e3, e4, if_pos rfl, if_pos rfl, B.fld, P.f0, show b + 1 + 1 = b + 2 by omega, R.plg hw (by omega), RT _ (by omega), tLe (by omega) (by omega) (by omega) (by omega)]
      by_cases c3 : z (31 * w + 1 + m.toNat) ≤ T (30 * w + m.toNat)
      · rw [if_pos c3, if_neg (fun q => by have := q.2.2; omega)]
      · rw [if_neg c3, if_pos ⟨by omega, by omega, by omega⟩]
theorem w_near2 (R : RepS h b z) (B : BS b) (F : WF z) (P : PS p) (RT : RepT h (p + 1) T) (HT : TB T) {d : Nat} (hd : d < 10) (h2 : (d : Int) < z 185) (hst : z (127 + 6 * d) ≠ -1) : ∀ (n : Nat) (i : Int) (fu : Nat), i + n = z 191 + 1 → n < fu → 1 ≤ i → (∀ m, fre z T (z (127 + 6 * d)).toNat m → i ≤ dst z d m) →
    ∃ r : Int, f_W_nearest_62 h fu p b (iI (z (127 + 6 * d))) (iI (z (128 + 6 * d))) (iI (z (128 + 6 * d) + z (125 + 6 * d) - 1)) (iI i) = some (iI r) ∧ IsNear z T d r := by
  have hW := F.wall hd h2
  obtain ⟨-, -, -, hl, -, hdl, hs, -, hset, hs2⟩ := id F
  have hD := hdl d hd
  have hS := hs d hd h2
  have h191 : 0 ≤ z 191 ∧ z 191 ≤ 50 := hset 1 (by decide)
  have ew : iI (z (127 + 6 * d)) = iI (((z (127 + 6 * d)).toNat : Nat) : Int) := by congr 1; omega
  have ib1 : ib (1 : Int32) 6 = true := by decide
  have cl1 : (1 : Int32).toNatClampNeg = 1 := rfl
  intro n
  induction n with
  | zero =>
    intro i fu hi hfu h1 hmin
    obtain ⟨fu, rfl⟩ : ∃ k, fu = k + 1 := ⟨fu - 1, by omega⟩
    refine ⟨-1, ?_, Or.inl ⟨rfl, fun m hm => by have := hmin m hm; omega⟩⟩
    rw [f_W_nearest_62, ib1, if_pos rfl, B.fld, cl1, show b + 1 + 8 = b + 9 by omega, R.st1]
    rw [tLt (by omega) (by omega) (by omega) (by omega), if_pos (by omega), lI1, iI_neg]
  | succ n ih =>
    intro i fu hi hfu h1 hmin
    obtain ⟨fu, rfl⟩ : ∃ k, fu = k + 1 := ⟨fu - 1, by omega⟩
    rw [f_W_nearest_62, ib1, if_pos rfl, B.fld, cl1, show b + 1 + 8 = b + 9 by omega, R.st1]
    rw [tLt (by omega) (by omega) (by omega) (by omega), if_neg (by omega), iI_sub, iI_add, ew, w_free R B F P RT HT (by omega) ⟨by omega, by omega⟩, w_free R B F P RT HT (by omega) ⟨by omega, by omega⟩, Option.bind_some, Option.bind_some]
    by_cases c1 : fre z T (z (127 + 6 * d)).toNat (z (128 + 6 * d) - i)
    · rw [if_pos c1, if_neg (by decide)]
      refine ⟨_, rfl, Or.inr ⟨c1, ?_, fun m hm => ?_⟩⟩
      · unfold dst; rw [if_pos (by omega)]; omega
      · have := hmin m hm
        have e : dst z d (z (128 + 6 * d) - i) = i := by unfold dst; rw [if_pos (by omega)]; omega
        rw [e]
        by_cases q : i < dst z d m
        · exact Or.inl q
        · refine Or.inr ⟨by omega, ?_⟩
          have q2 : dst z d m = i := by omega
          unfold dst at q2
          split at q2
          · omega
          · split at q2 <;> omega
    · rw [if_neg c1, if_pos rfl]
      by_cases c2 : fre z T (z (127 + 6 * d)).toNat (z (128 + 6 * d) + z (125 + 6 * d) - 1 + i)
      · rw [if_pos c2, if_neg (by decide)]
        have e : dst z d (z (128 + 6 * d) + z (125 + 6 * d) - 1 + i) = i := by
          unfold dst
          rw [if_neg (by omega), if_neg (by omega)]
          omega
        refine ⟨_, rfl, Or.inr ⟨c2, by omega, fun m hm => ?_⟩⟩
        have := hmin m hm
        rw [e]
        by_cases q : i < dst z d m
        · exact Or.inl q
        · refine Or.inr ⟨by omega, ?_⟩
          have q2 : dst z d m = i := by omega
          unfold dst at q2
          split at q2
          · exfalso
            apply c1
            rw [show z (128 + 6 * d) - i = m by omega]
            exact hm
          · split at q2 <;> omega
      · rw [if_neg c2, if_pos rfl, ← ew]
        have := ih (i + 1) fu (by omega) (by omega) (by omega) (fun m hm => by
          have q1 := hmin m hm
          by_cases q2 : dst z d m = i
          · exfalso
            unfold dst at q2
            split at q2
            · apply c1
              rw [show z (128 + 6 * d) - i = m by omega]
              exact hm
            · split at q2
              · omega
              · apply c2
                rw [show z (128 + 6 * d) + z (125 + 6 * d) - 1 + i = m by omega]
                exact hm
          · omega)
        rw [lI1, iI_add]
        exact this
theorem w_near1 (R : RepS h b z) (B : BS b) (F : WF z) (P : PS p) (RT : RepT h (p + 1) T) (HT : TB T) {d : Nat} (hd : d < 10) (h2 : (d : Int) < z 185) (hst : z (127 + 6 * d) ≠ -1) : ∀ (n : Nat) (i : Int) (fu : Nat), i + n = z (128 + 6 * d) + z (125 + 6 * d) → n < fu → z (128 + 6 * d) ≤ i → (∀ m, fre z T (z (127 + 6 * d)).toNat m → z (128 + 6 * d) ≤ m → i ≤ m) →
    ∃ r : Int, f_W_nearest_32 h fu p b (iI (z (127 + 6 * d))) (iI (z (128 + 6 * d))) (iI (z (128 + 6 * d) + z (125 + 6 * d) - 1)) (iI i) = some (iI r) ∧ IsNear z T d r := by
  have hW := F.wall hd h2
  obtain ⟨-, -, -, hl, -, hdl, hs, -, hset, hs2⟩ := id F
  have hD := hdl d hd
  have hS := hs d hd h2
  have h191 : 0 ≤ z 191 ∧ z 191 ≤ 50 := hset 1 (by decide)
  have ew : iI (z (127 + 6 * d)) = iI (((z (127 + 6 * d)).toNat : Nat) : Int) := by congr 1; omega
  intro n
  induction n with
  | zero =>
    intro i fu hi hfu h1 hmin
    obtain ⟨fu, rfl⟩ : ∃ k, fu = k + 1 := ⟨fu - 1, by omega⟩
    rw [f_W_nearest_32]
    rw [tLt (by omega) (by omega) (by omega) (by omega), if_pos (by omega), lI1]
    refine w_near2 R B F P RT HT hd h2 hst (z 191).toNat 1 4096 (by omega) (by omega) (by omega) (fun m hm => ?_)
    unfold dst
    split
    · omega
    · have := hmin m hm (by omega)
      rw [if_neg (by omega)]
      omega
  | succ n ih =>
    intro i fu hi hfu h1 hmin
    obtain ⟨fu, rfl⟩ : ∃ k, fu = k + 1 := ⟨fu - 1, by omega⟩
    rw [f_W_nearest_32]
    rw [tLt (by omega) (by omega) (by omega) (by omega), if_neg (by omega), ew, w_free R B F P RT HT (by omega) ⟨by omega, by omega⟩, Option.bind_some]
    by_cases c1 : fre z T (z (127 + 6 * d)).toNat i
    · rw [if_pos c1, if_neg (by decide)]
      have e : dst z d i = 0 := by unfold dst; rw [if_neg (by omega), if_pos (by omega)]
      refine ⟨_, rfl, Or.inr ⟨c1, by omega, fun m hm => ?_⟩⟩
      rw [e]
      unfold dst
      split
      · left; omega
      · have := hmin m hm (by omega)
        split
        · right; exact ⟨rfl, by omega⟩
        · left; omega
    · rw [if_neg c1, if_pos rfl, ← ew, lI1, iI_add]
      refine ih (i + 1) fu (by omega) (by omega) (by omega) (fun m hm h9 => ?_)
      have := hmin m hm h9
      by_cases q : m = i
      · exact absurd (by rw [← q]; exact hm) c1
      · omega
theorem w_nearest (R : RepS h b z) (B : BS b) (F : WF z) (P : PS p) (RT : RepT h (p + 1) T) (HT : TB T) {d : Nat} (hd : d < 10) (h2 : (d : Int) < z 185) (hst : z (127 + 6 * d) ≠ -1) : ∃ r : Int, f_W_nearest h p b (iI d) = some (iI r) ∧ IsNear z T d r := by
  have hW := F.wall hd h2
  obtain ⟨-, -, -, hl, -, hdl, hs, -⟩ := id F
  have hD := hdl d hd
  have hS := hs d hd h2
  have e1 : (iI (d : Int)).toNatClampNeg = d := by rw [iI_cl (by omega) (by omega)]; omega
  have e2 : ib (iI (d : Int)) 10 = true := iI_ib (by omega) (by omega) (by omega)
  have a5 : h (b + 1 + 5) d = iI (z (127 + 6 * d)) := by
    rw [show b + 1 + 5 = b + 3 + 3 by omega, R.dl 3 hd h2 (by decide)]
    congr 2; omega
  have a6 : h (b + 1 + 6) d = iI (z (128 + 6 * d)) := by
    rw [show b + 1 + 6 = b + 3 + 4 by omega, R.dl 4 hd h2 (by decide)]
    congr 2; omega
  have a3 : h (b + 1 + 3) d = iI (z (125 + 6 * d)) := by
    rw [show b + 1 + 3 = b + 3 + 1 by omega, R.dl 1 hd h2 (by decide)]
    congr 2; omega
  unfold f_W_nearest
  rw [e1, e2, B.fld, B.fld, B.fld, a5, a6, a3, if_pos rfl, if_pos rfl, if_pos rfl]
  simp only [lI0, lI1, lI2, lI3, lI4, lI5, lI6, lI7, lI8, lI9, lI10, lI11, lI12, lI13, lI14, lI16, lI27, lI29, lI30, lI31, lI33, lI48, lI50, lI57, lI60, lI64, lI65, lI72, lI100, lI101, lI102, lI103, lI104, lI105, lI106, lI107, lI108, lI109, lI110, lI111, lI112, lI113, lI114, lI115, lI116, lI117, lI118, lI119, lI120, lI124, lI128, lI184, lI185, lI186, lI187, lI188, lI189, lI190, lI191, lI192, lI193, lI194, lI195, lI196, lI255, lI1000, lI2548, lI10000, iI_neg, iI_add, iI_mul, iI_sub]
  exact w_near1 R B F P RT HT hd h2 hst (z (125 + 6 * d)).toNat (z (128 + 6 * d)) 4096 (by omega) (by omega) (by omega) (fun m _ q => q)
end NEAR
