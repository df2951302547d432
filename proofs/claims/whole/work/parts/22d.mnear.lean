/-! the reference's side of it -/
section MNEAR
variable {h : HP} {a : Nat} {z T : Nat → Int}
theorem RepM.d0 (R : RepM h a z) {d : Nat} (hd : d < 10) : h a (iI (124 + 6 * (d : Int) + 0)).toNatClampNeg = iI (z (124 + 6 * d)) := by
  rw [iI_cl (by omega) (by omega), R _ (by omega)]
  congr 2
theorem ib_d0 {d : Nat} (hd : d < 10) : ib (iI (124 + 6 * (d : Int) + 0)) 196 = true := iI_ib (by omega) (by omega) (by omega)
theorem RepM.d1 (R : RepM h a z) {d : Nat} (hd : d < 10) : h a (iI (124 + 6 * (d : Int) + 1)).toNatClampNeg = iI (z (125 + 6 * d)) := by
  rw [iI_cl (by omega) (by omega), R _ (by omega)]
  congr 2
  omega
theorem ib_d1 {d : Nat} (hd : d < 10) : ib (iI (124 + 6 * (d : Int) + 1)) 196 = true := iI_ib (by omega) (by omega) (by omega)
theorem RepM.d2 (R : RepM h a z) {d : Nat} (hd : d < 10) : h a (iI (124 + 6 * (d : Int) + 2)).toNatClampNeg = iI (z (126 + 6 * d)) := by
  rw [iI_cl (by omega) (by omega), R _ (by omega)]
  congr 2
  omega
theorem ib_d2 {d : Nat} (hd : d < 10) : ib (iI (124 + 6 * (d : Int) + 2)) 196 = true := iI_ib (by omega) (by omega) (by omega)
theorem RepM.d3 (R : RepM h a z) {d : Nat} (hd : d < 10) : h a (iI (124 + 6 * (d : Int) + 3)).toNatClampNeg = iI (z (127 + 6 * d)) := by
  rw [iI_cl (by omega) (by omega), R _ (by omega)]
  congr 2
  omega
theorem ib_d3 {d : Nat} (hd : d < 10) : ib (iI (124 + 6 * (d : Int) + 3)) 196 = true := iI_ib (by omega) (by omega) (by omega)
theorem RepM.d4 (R : RepM h a z) {d : Nat} (hd : d < 10) : h a (iI (124 + 6 * (d : Int) + 4)).toNatClampNeg = iI (z (128 + 6 * d)) := by
  rw [iI_cl (by omega) (by omega), R _ (by omega)]
  congr 2
  omega
theorem ib_d4 {d : Nat} (hd : d < 10) : ib (iI (124 + 6 * (d : Int) + 4)) 196 = true := iI_ib (by omega) (by omega) (by omega)
theorem RepM.d5 (R : RepM h a z) {d : Nat} (hd : d < 10) : h a (iI (124 + 6 * (d : Int) + 5)).toNatClampNeg = iI (z (129 + 6 * d)) := by
  rw [iI_cl (by omega) (by omega), R _ (by omega)]
  congr 2
  omega
theorem ib_d5 {d : Nat} (hd : d < 10) : ib (iI (124 + 6 * (d : Int) + 5)) 196 = true := iI_ib (by omega) (by omega) (by omega)
theorem ib_184 : ib (184 : Int32) 196 = true := by decide
theorem cl_184 : (184 : Int32).toNatClampNeg = 184 := rfl
theorem RepM.c184 (R : RepM h a z) : h a 184 = iI (z 184) := R 184 (by decide)
theorem ib_185 : ib (185 : Int32) 196 = true := by decide
theorem cl_185 : (185 : Int32).toNatClampNeg = 185 := rfl
theorem RepM.c185 (R : RepM h a z) : h a 185 = iI (z 185) := R 185 (by decide)
theorem ib_186 : ib (186 : Int32) 196 = true := by decide
theorem cl_186 : (186 : Int32).toNatClampNeg = 186 := rfl
theorem RepM.c186 (R : RepM h a z) : h a 186 = iI (z 186) := R 186 (by decide)
theorem ib_187 : ib (187 : Int32) 196 = true := by decide
theorem cl_187 : (187 : Int32).toNatClampNeg = 187 := rfl
theorem RepM.c187 (R : RepM h a z) : h a 187 = iI (z 187) := R 187 (by decide)
theorem ib_188 : ib (188 : Int32) 196 = true := by decide
theorem cl_188 : (188 : Int32).toNatClampNeg = 188 := rfl
theorem RepM.c188 (R : RepM h a z) : h a 188 = iI (z 188) := R 188 (by decide)
theorem ib_189 : ib (189 : Int32) 196 = true := by decide
theorem cl_189 : (189 : Int32).toNatClampNeg = 189 := rfl
theorem RepM.c189 (R : RepM h a z) : h a 189 = iI (z 189) := R 189 (by decide)
theorem ib_190 : ib (190 : Int32) 196 = true := by decide
theorem cl_190 : (190 : Int32).toNatClampNeg = 190 := rfl
theorem RepM.c190 (R : RepM h a z) : h a 190 = iI (z 190) := R 190 (by decide)
theorem ib_191 : ib (191 : Int32) 196 = true := by decide
theorem cl_191 : (191 : Int32).toNatClampNeg = 191 := rfl
theorem RepM.c191 (R : RepM h a z) : h a 191 = iI (z 191) := R 191 (by decide)
theorem ib_192 : ib (192 : Int32) 196 = true := by decide
theorem cl_192 : (192 : Int32).toNatClampNeg = 192 := rfl
theorem RepM.c192 (R : RepM h a z) : h a 192 = iI (z 192) := R 192 (by decide)
theorem ib_193 : ib (193 : Int32) 196 = true := by decide
theorem cl_193 : (193 : Int32).toNatClampNeg = 193 := rfl
theorem RepM.c193 (R : RepM h a z) : h a 193 = iI (z 193) := R 193 (by decide)
theorem ib_194 : ib (194 : Int32) 196 = true := by decide
theorem cl_194 : (194 : Int32).toNatClampNeg = 194 := rfl
theorem RepM.c194 (R : RepM h a z) : h a 194 = iI (z 194) := R 194 (by decide)
theorem ib_195 : ib (195 : Int32) 196 = true := by decide
theorem cl_195 : (195 : Int32).toNatClampNeg = 195 := rfl
theorem RepM.c195 (R : RepM h a z) : h a 195 = iI (z 195) := R 195 (by decide)
theorem m_spot {d : Nat} : f_M_spot h (iI d) = some (iI (124 + 6 * (d : Int))) := by
  unfold f_M_spot
  rw [lI6, lI124, iI_mul, iI_add]
theorem m_stands (R : RepM h a z) (F : WF z) {d : Nat} (hd : d < 10) (h2 : (d : Int) < z 185) : f_M_stands h a (iI d) = some (if z (127 + 6 * d) = -1 then 0 else 1) := by
  have hW := F.wall hd h2
  unfold f_M_stands
  rw [m_spot, Option.bind_some, lI3, iI_add, ib_d3 hd, if_pos rfl, R.d3 hd, lI1, iI_neg, tEq (by omega) (by omega) (by omega) (by omega)]
  by_cases c : z (127 + 6 * d) = -1
  · rw [if_pos c, if_pos c]
  · rw [if_neg c, if_neg c]
theorem m_size (R : RepM h a z) {w : Nat} (hw : w < 4) : f_M_size h a (iI w) = some (iI (z (31 * w))) := by
  unfold f_M_size
  rw [lI31, iI_mul, iI_ib (by omega) (by omega) (by omega), if_pos rfl, iI_cl (by omega) (by omega), R _ (by omega)]
  congr 3
theorem m_plugs (R : RepM h a z) {w m : Nat} (hw : w < 4) (hm : m < 30) : f_M_plugs h a (iI w) (iI m) = some (iI (z (31 * w + 1 + m))) := by
  unfold f_M_plugs
  rw [lI31, lI1, iI_mul, iI_add, iI_add, iI_ib (by omega) (by omega) (by omega), if_pos rfl, iI_cl (by omega) (by omega), R _ (by omega)]
  congr 3
theorem dst_b (F : WF z) {d : Nat} (hd : d < 10) (h2 : (d : Int) < z 185) {m : Int} (h3 : -100 ≤ m) (h4 : m < 100) : 0 ≤ dst z d m ∧ dst z d m < 200 := by
  have hW := F.wall hd h2
  have hD := F.2.2.2.2.2.1 d hd
  unfold dst
  split
  · omega
  · split <;> omega
theorem m_away (R : RepM h a z) (F : WF z) {d : Nat} (hd : d < 10) (h2 : (d : Int) < z 185) {m : Int} (h3 : -100 ≤ m) (h4 : m < 100) : f_M_away h a (iI d) (iI m) = some (iI (dst z d m)) := by
  have hW := F.wall hd h2
  have hD := F.2.2.2.2.2.1 d hd
  unfold f_M_away
  rw [m_spot, Option.bind_some, Option.bind_some, lI4, lI1, iI_add, iI_add, ib_d4 hd, ib_d1 hd, if_pos rfl, if_pos rfl, R.d4 hd, R.d1 hd, iI_add, iI_sub, iI_sub, iI_sub, tLe (by omega) (by omega) (by omega) (by omega), tLe (by omega) (by omega) (by omega) (by omega)]
  unfold dst
  by_cases c1 : m < z (128 + 6 * d)
  · rw [if_neg (by omega), if_pos c1]
  · rw [if_pos (by omega), if_neg c1]
    by_cases c2 : m ≤ z (128 + 6 * d) + z (125 + 6 * d) - 1
    · rw [if_pos c2, if_pos c2, lI0]
    · rw [if_neg c2, if_neg c2]
def Best (z T : Nat → Int) (d : Nat) (q i : Int) : Prop :=
  (q = -1 ∧ ∀ m, fre z T (z (127 + 6 * d)).toNat m → m < i → z 191 < dst z d m) ∨
  (fre z T (z (127 + 6 * d)).toNat q ∧ q < i ∧ dst z d q ≤ z 191 ∧ ∀ m, fre z T (z (127 + 6 * d)).toNat m → m < i → dst z d q < dst z d m ∨ (dst z d q = dst z d m ∧ q ≤ m))
theorem m_near1 (R : RepM h a z) (F : WF z) (RT : RepT h 207 T) (HT : TB T) {d : Nat} (hd : d < 10) (h2 : (d : Int) < z 185) (hst : z (127 + 6 * d) ≠ -1) : ∀ (n : Nat) (i q : Int) (fu : Nat), i + n = z (31 * (z (127 + 6 * d)).toNat) → n < fu → 0 ≤ i → Best z T d q i →
    ∃ r : Int, f_M_nearest_15 h fu 200 a (iI d) (iI (z (127 + 6 * d))) (iI q) (iI i) = some (iI r) ∧ IsNear z T d r := by
  have hW := F.wall hd h2
  have hD := F.2.2.2.2.2.1 d hd
  obtain ⟨-, -, -, hl, hp, -, hs, -, hset, hs2⟩ := id F
  have h191 : 0 ≤ z 191 ∧ z 191 ≤ 50 := hset 1 (by decide)
  have hL := hl (z (127 + 6 * d)).toNat (by omega)
  have ew : iI (z (127 + 6 * d)) = iI (((z (127 + 6 * d)).toNat : Nat) : Int) := by congr 1; omega
  intro n
  induction n with
  | zero =>
    intro i q fu hi hfu h0 hB
    obtain ⟨fu, rfl⟩ : ∃ k, fu = k + 1 := ⟨fu - 1, by omega⟩
    rw [f_M_nearest_15, ew, m_size R (by omega), Option.bind_some, tLe (by omega) (by omega) (by omega) (by omega), if_pos (by omega)]
    refine ⟨q, rfl, ?_⟩
    rcases hB with ⟨b1, b2⟩ | ⟨b1, b2, b3, b4⟩
    · exact Or.inl ⟨b1, fun m hm => b2 m hm (by have := hm.2.1; omega)⟩
    · exact Or.inr ⟨b1, b3, fun m hm => b4 m hm (by have := hm.2.1; omega)⟩
  | succ n ih =>
    intro i q fu hi hfu h0 hB
    obtain ⟨fu, rfl⟩ : ∃ k, fu = k + 1 := ⟨fu - 1, by omega⟩
    have hP := hp (z (127 + 6 * d)).toNat i.toNat (by omega) (by omega)
    have hTT := HT (30 * (z (127 + 6 * d)).toNat + i.toNat) (by omega)
    have e1 : fld 200 8 = 207 := rfl
    have ei : iI i = iI ((i.toNat : Nat) : Int) := by congr 1; omega
    have e3 : (iI (30 * z (127 + 6 * d) + i)).toNatClampNeg = 30 * (z (127 + 6 * d)).toNat + i.toNat := by
      rw [iI_cl (by omega) (by omega)]
      omega
    have e4 : ib (iI (30 * z (127 + 6 * d) + i)) 120 = true := iI_ib (by omega) (by omega) (by omega)
    have hbi := dst_b F hd h2 (m := i) (by omega) (by omega)
    have keep : Best z T d q (i + 1) → ∃ r : Int, f_M_nearest_102 h (f_M_nearest_15 h fu) 200 a (iI d) (iI (z (127 + 6 * d))) (iI q) (iI i) = some (iI r) ∧ IsNear z T d r := by
      intro hB2
      unfold f_M_nearest_102 f_M_nearest_104
      rw [lI1, iI_add]
      exact ih (i + 1) q fu (by omega) (by omega) (by omega) hB2
    have take_ : Best z T d i (i + 1) → ∃ r : Int, f_M_nearest_97 h (f_M_nearest_15 h fu) 200 a (iI d) (iI (z (127 + 6 * d))) (iI i) = some (iI r) ∧ IsNear z T d r := by
      intro hB2
      unfold f_M_nearest_97 f_M_nearest_104
      rw [lI1, iI_add]
      exact ih (i + 1) i fu (by omega) (by omega) (by omega) hB2
    have no : (fre z T (z (127 + 6 * d)).toNat i → z 191 < dst z d i) → ∃ r : Int, f_M_nearest_66 h (f_M_nearest_15 h fu) 200 a (iI d) (iI (z (127 + 6 * d))) (iI q) (iI i) = some (iI r) ∧ IsNear z T d r := by
      intro hn
      unfold f_M_nearest_66 f_M_nearest_67
      rw [if_pos rfl]
      apply keep
      rcases hB with ⟨b1, b2⟩ | ⟨b1, b2, b3, b4⟩
      · refine Or.inl ⟨b1, fun m hm h9 => ?_⟩
        by_cases e : m = i
        · rw [e] at hm ⊢; exact hn hm
        · exact b2 m hm (by omega)
      · refine Or.inr ⟨b1, by omega, b3, fun m hm h9 => ?_⟩
        by_cases e : m = i
        · rw [e] at hm ⊢
          have := hn hm
          left; omega
        · exact b4 m hm (by omega)
    rw [f_M_nearest_15]
    rw [ew, m_size R (by omega), Option.bind_some, tLe (by omega) (by omega) (by omega) (by omega), if_neg (by omega), ← ew, lI30, iI_mul, iI_add, e4, if_pos rfl, e3, e1, RT _ (by omega)]
    have e9 : f_M_plugs h a (iI (z (127 + 6 * d))) (iI i) = some (iI (z (31 * (z (127 + 6 * d)).toNat + 1 + i.toNat))) := by
      rw [ew, ei]
      exact m_plugs R (by omega) (by omega)
    rw [e9, Option.bind_some, tLe (by omega) (by omega) (by omega) (by omega)]
    by_cases c1 : z (31 * (z (127 + 6 * d)).toNat + 1 + i.toNat) ≤ T (30 * (z (127 + 6 * d)).toNat + i.toNat)
    · rw [if_pos c1]
      exact no (fun q => by have := q.2.2; omega)
    · rw [if_neg c1, m_away R F hd h2 (by omega) (by omega), Option.bind_some, ib_191, if_pos rfl, cl_191, R.c191, tLt (by omega) (by omega) (by omega) (by omega)]
      have hfi : fre z T (z (127 + 6 * d)).toNat i := ⟨by omega, by omega, by omega⟩
      by_cases c2 : z 191 < dst z d i
      · rw [if_pos c2]
        exact no (fun _ => c2)
      · rw [if_neg c2]
        unfold f_M_nearest_67
        rw [if_neg (by decide), lI1, iI_neg]
        have hq : -1 ≤ q ∧ q < 30 := by
          rcases hB with ⟨b1, b2⟩ | ⟨b1, b2, b3, b4⟩
          · omega
          · have := b1.1; have := b1.2.1; omega
        rw [tEq (by omega) (by omega) (by omega) (by omega)]
        by_cases c3 : q = -1
        · rw [if_pos c3]
          apply take_
          rcases hB with ⟨b1, b2⟩ | ⟨b1, b2, b3, b4⟩
          · refine Or.inr ⟨hfi, by omega, by omega, fun m hm h9 => ?_⟩
            by_cases e : m = i
            · right; rw [e]; exact ⟨rfl, by omega⟩
            · have := b2 m hm (by omega)
              left; omega
          · have := b1.1; omega
        · rw [if_neg c3, m_away R F hd h2 (by omega) (by omega), m_away R F hd h2 (by omega) (by omega), Option.bind_some, Option.bind_some]
          have hbq := dst_b F hd h2 (m := q) (by omega) (by omega)
          rw [tLe (by omega) (by omega) (by omega) (by omega)]
          rcases hB with ⟨b1, b2⟩ | ⟨b1, b2, b3, b4⟩
          · omega
          · by_cases c4 : dst z d q ≤ dst z d i
            · rw [if_pos c4]
              apply keep
              refine Or.inr ⟨b1, by omega, b3, fun m hm h9 => ?_⟩
              by_cases e : m = i
              · rw [e]; omega
              · exact b4 m hm (by omega)
            · rw [if_neg c4]
              apply take_
              refine Or.inr ⟨hfi, by omega, by omega, fun m hm h9 => ?_⟩
              by_cases e : m = i
              · right; rw [e]; exact ⟨rfl, by omega⟩
              · have := b4 m hm (by omega)
                left; omega
theorem m_nearest (R : RepM h a z) (F : WF z) (RT : RepT h 207 T) (HT : TB T) {d : Nat} (hd : d < 10) (h2 : (d : Int) < z 185) (hst : z (127 + 6 * d) ≠ -1) : ∃ r : Int, f_M_nearest h 200 a (iI d) = some (iI r) ∧ IsNear z T d r := by
  have hW := F.wall hd h2
  have hL := F.2.2.2.1 (z (127 + 6 * d)).toNat (by omega)
  unfold f_M_nearest
  rw [m_spot, Option.bind_some, lI3, iI_add, ib_d3 hd, if_pos rfl, R.d3 hd, lI1, lI0, iI_neg]
  exact m_near1 R F RT HT hd h2 hst (z (31 * (z (127 + 6 * d)).toNat)).toNat 0 (-1) 4096 (by omega) (by omega) (by omega) (Or.inl ⟨rfl, fun m hm h9 => by have := hm.1; omega⟩)
end MNEAR
