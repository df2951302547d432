/-! the fair: the class's questions about pitches -/
def FS (a b p : Nat) : Prop := (a = 182 ∧ b = 0 ∧ p = 184) ∨ (a = 183 ∧ b = 10 ∧ p = 188)
theorem FS.f0 {a b p : Nat} (h : FS a b p) : fld a 0 = b := by rcases h with ⟨rfl, rfl, rfl⟩ | ⟨rfl, rfl, rfl⟩ <;> rfl
theorem FS.f1 {a b p : Nat} (h : FS a b p) : fld a 1 = p := by rcases h with ⟨rfl, rfl, rfl⟩ | ⟨rfl, rfl, rfl⟩ <;> rfl
theorem FS.bs {a b p : Nat} (h : FS a b p) : BS b := by rcases h with ⟨rfl, rfl, rfl⟩ | ⟨rfl, rfl, rfl⟩ <;> exact ⟨by decide, by decide⟩
theorem FS.ps {a b p : Nat} (h : FS a b p) : PS p := by rcases h with ⟨rfl, rfl, rfl⟩ | ⟨rfl, rfl, rfl⟩ <;> first | exact Or.inl rfl | exact Or.inr rfl
def atF (z : Nat → Int) (w m : Int) : Nat → Nat → Int
  | 0, _ => -1
  | n + 1, i => if z (127 + 6 * i) = w ∧ z (128 + 6 * i) ≤ m ∧ m < z (128 + 6 * i) + z (125 + 6 * i) then (i : Int) else atF z w m n (i + 1)
def atZ (z : Nat → Int) (w m : Int) : Int := atF z w m (z 185).toNat 0
def frB (z : Nat → Int) (w f l : Int) (d e : Nat) : Nat → Nat → Bool
  | 0, _ => true
  | n + 1, i => if i ≠ d ∧ i ≠ e ∧ z (127 + 6 * i) = w ∧ f < z (128 + 6 * i) + z (125 + 6 * i) ∧ z (128 + 6 * i) < f + l then false else frB z w f l d e n (i + 1)
def frZ (z : Nat → Int) (w f l : Int) (d e : Nat) : Bool := frB z w f l d e (z 185).toNat 0
def endZ (z : Nat → Int) (d : Nat) : Int := if z (127 + 6 * d) = -1 then 0 else (if z (128 + 6 * d) = 0 then 1 else 0) + (if z (128 + 6 * d) + z (125 + 6 * d) = z (31 * (z (127 + 6 * d)).toNat) then 1 else 0)
abbrev nbr (z : Nat → Int) (d e : Nat) : Prop := z (127 + 6 * d) ≠ -1 ∧ z (127 + 6 * d) = z (127 + 6 * e) ∧ (z (128 + 6 * d) + z (125 + 6 * d) = z (128 + 6 * e) ∨ z (128 + 6 * e) + z (125 + 6 * e) = z (128 + 6 * d))
def sm (G : Nat → Int) : Nat → Nat → Int
  | 0, _ => 0
  | n + 1, i => G i + sm G n (i + 1)
theorem sm_b {G : Nat → Int} {M : Int} (h : ∀ i, i < 40 → 0 ≤ G i ∧ G i ≤ M) : ∀ n i : Nat, i + n ≤ 40 → 0 ≤ sm G n i ∧ sm G n i ≤ n * M := by
  intro n
  induction n with
  | zero => intro i _; show (0 : Int) ≤ 0 ∧ (0 : Int) ≤ _; omega
  | succ n ih =>
    intro i hi
    have h1 := h i (by omega)
    have h2 := ih (i + 1) (by omega)
    show 0 ≤ G i + sm G n (i + 1) ∧ G i + sm G n (i + 1) ≤ ((n + 1 : Nat) : Int) * M
    have : ((n + 1 : Nat) : Int) * M = n * M + M := by rw [Int.natCast_add, Int.add_mul]; simp
    omega
def rivZ (z : Nat → Int) (d : Nat) : Int := sm (fun e => if nbr z d e ∧ z (124 + 6 * d) = z (124 + 6 * e) then 1 else 0) (z 185).toNat 0
def nbrZ (z : Nat → Int) (d : Nat) : Int := sm (fun e => if nbr z d e then 1 else 0) (z 185).toNat 0
noncomputable def lackZ (z : Nat → Int) (d : Nat) : Int := if z (127 + 6 * d) = -1 then 0 else z (126 + 6 * d) - (shareZ z).2.1 d
noncomputable def baseZ (z : Nat → Int) (d : Nat) : Int := z 190 * z (125 + 6 * d) + z 192 * endZ z d + z 193 * (shareZ z).2.1 d
noncomputable def rentZ (z : Nat → Int) (d : Nat) : Int := if z (127 + 6 * d) = -1 then 0 else max ((if rivZ z d ≤ 0 then baseZ z d else baseZ z d - baseZ z d / 4) - z 194 * lackZ z d) 0
section FAIRQ
variable {h : HP} {a b p : Nat} {z : Nat → Int}
theorem RepS.q2 (R : RepS h b z) (B : BS b) {d : Nat} (hd : d < 10) (h2 : (d : Int) < z 185) : h (fld b 2) d = iI (z (124 + 6 * d)) := by
  rw [B.fld, show b + 1 + 2 = b + 3 + 0 by omega, R.dl 0 hd h2 (by decide)]
  rfl
theorem RepS.q3 (R : RepS h b z) (B : BS b) {d : Nat} (hd : d < 10) (h2 : (d : Int) < z 185) : h (fld b 3) d = iI (z (125 + 6 * d)) := by
  rw [B.fld, show b + 1 + 3 = b + 3 + 1 by omega, R.dl 1 hd h2 (by decide)]
  congr 2
  omega
theorem RepS.q4 (R : RepS h b z) (B : BS b) {d : Nat} (hd : d < 10) (h2 : (d : Int) < z 185) : h (fld b 4) d = iI (z (126 + 6 * d)) := by
  rw [B.fld, show b + 1 + 4 = b + 3 + 2 by omega, R.dl 2 hd h2 (by decide)]
  congr 2
  omega
theorem RepS.q5 (R : RepS h b z) (B : BS b) {d : Nat} (hd : d < 10) (h2 : (d : Int) < z 185) : h (fld b 5) d = iI (z (127 + 6 * d)) := by
  rw [B.fld, show b + 1 + 5 = b + 3 + 3 by omega, R.dl 3 hd h2 (by decide)]
  congr 2
  omega
theorem RepS.q6 (R : RepS h b z) (B : BS b) {d : Nat} (hd : d < 10) (h2 : (d : Int) < z 185) : h (fld b 6) d = iI (z (128 + 6 * d)) := by
  rw [B.fld, show b + 1 + 6 = b + 3 + 4 by omega, R.dl 4 hd h2 (by decide)]
  congr 2
  omega
theorem RepS.q7 (R : RepS h b z) (B : BS b) {d : Nat} (hd : d < 10) (h2 : (d : Int) < z 185) : h (fld b 7) d = iI (z (129 + 6 * d)) := by
  rw [B.fld, show b + 1 + 7 = b + 3 + 5 by omega, R.dl 5 hd h2 (by decide)]
  congr 2
  omega
theorem RepS.s0 (R : RepS h b z) (B : BS b) : h (fld b 8) (0 : Int32).toNatClampNeg = iI (z 190) := by
  rw [B.fld]
  exact R.st0
theorem ibs0 : ib (0 : Int32) 6 = true := by decide
theorem RepS.s1 (R : RepS h b z) (B : BS b) : h (fld b 8) (1 : Int32).toNatClampNeg = iI (z 191) := by
  rw [B.fld]
  exact R.st1
theorem ibs1 : ib (1 : Int32) 6 = true := by decide
theorem RepS.s2 (R : RepS h b z) (B : BS b) : h (fld b 8) (2 : Int32).toNatClampNeg = iI (z 192) := by
  rw [B.fld]
  exact R.st2
theorem ibs2 : ib (2 : Int32) 6 = true := by decide
theorem RepS.s3 (R : RepS h b z) (B : BS b) : h (fld b 8) (3 : Int32).toNatClampNeg = iI (z 193) := by
  rw [B.fld]
  exact R.st3
theorem ibs3 : ib (3 : Int32) 6 = true := by decide
theorem RepS.s4 (R : RepS h b z) (B : BS b) : h (fld b 8) (4 : Int32).toNatClampNeg = iI (z 194) := by
  rw [B.fld]
  exact R.st4
theorem ibs4 : ib (4 : Int32) 6 = true := by decide
theorem RepS.s5 (R : RepS h b z) (B : BS b) : h (fld b 8) (5 : Int32).toNatClampNeg = iI (z 195) := by
  rw [B.fld]
  exact R.st5
theorem ibs5 : ib (5 : Int32) 6 = true := by decide
theorem e1_ {d : Nat} (hd : d < 10) : (iI (d : Int)).toNatClampNeg = d := by rw [iI_cl (by omega) (by omega)]; omega
theorem e2_ {d : Nat} (hd : d < 10) : ib (iI (d : Int)) 10 = true := iI_ib (by omega) (by omega) (by omega)
theorem a_overlap {x y u v : Int} (h1 : -1000 ≤ x ∧ x ≤ 1000) (h2 : -1000 ≤ y ∧ y ≤ 1000) (h3 : -1000 ≤ u ∧ u ≤ 1000) (h4 : -1000 ≤ v ∧ v ≤ 1000) : f_A_overlap h (iI x) (iI y) (iI u) (iI v) = some (if x < u + v ∧ u < x + y then 1 else 0) := by
  unfold f_A_overlap
  rw [iI_add, iI_add, tLe (by omega) (by omega) (by omega) (by omega), tLe (by omega) (by omega) (by omega) (by omega)]
  by_cases c1 : u + v ≤ x
  · rw [if_pos c1, if_neg (by omega)]
  · rw [if_neg c1]
    by_cases c2 : x + y ≤ u
    · rw [if_pos c2, if_neg (by omega)]
    · rw [if_neg c2, if_pos (by omega)]
theorem at_stands (R : RepS h b z) (B : BS b) (F : WF z) {d : Nat} (hd : d < 10) (h2 : (d : Int) < z 185) {w : Int} (hw : 0 ≤ w ∧ w < 4) : f_S_standsAt h b (iI d) (iI w) = some (if z (127 + 6 * d) = w then 1 else 0) := by
  rw [s_standsAt R B F ⟨by omega, by omega⟩ ⟨by omega, by omega⟩]
  have et : (d : Int).toNat = d := by omega
  rw [et]
  by_cases c : z (127 + 6 * d) = w
  · have n1 : 0 ≤ (d : Int) ∧ (d : Int) < z 185 ∧ z (127 + 6 * d) = w ∧ w ≠ -1 := ⟨by omega, h2, c, by omega⟩
    rw [if_pos c, if_pos n1]
  · have n1 : ¬ (0 ≤ (d : Int) ∧ (d : Int) < z 185 ∧ z (127 + 6 * d) = w ∧ w ≠ -1) := fun q => c q.2.2.1
    rw [if_neg c, if_neg n1]
theorem st_stands (R : RepS h b z) (B : BS b) (F : WF z) {d : Nat} (hd : d < 10) (h2 : (d : Int) < z 185) : f_S_stands h b (iI d) = some (if z (127 + 6 * d) = -1 then 0 else 1) := by
  rw [s_stands R B F ⟨by omega, by omega⟩]
  have et : (d : Int).toNat = d := by omega
  rw [et]
  by_cases c : z (127 + 6 * d) = -1
  · have n1 : ¬ (0 ≤ (d : Int) ∧ (d : Int) < z 185 ∧ z (127 + 6 * d) ≠ -1) := fun q => q.2.2 c
    rw [if_pos c, if_neg n1]
  · have n1 : 0 ≤ (d : Int) ∧ (d : Int) < z 185 ∧ z (127 + 6 * d) ≠ -1 := ⟨by omega, h2, c⟩
    rw [if_neg c, if_pos n1]
theorem a_isFree1 (S : FS a b p) (R : RepS h b z) (F : WF z) {w f l : Int} {x y : Nat} (hw : 0 ≤ w ∧ w < 4) (hf : 0 ≤ f ∧ f < 30) (hl : 0 ≤ l ∧ l ≤ 9) (hx : x < 10) (hy : y < 10) : ∀ (n d fu : Nat), (d : Int) + n = z 185 → n < fu → f_A_isFreeButFor_3 h fu a (iI w) (iI f) (iI l) (iI x) (iI y) (iI d) = some (if frB z w f l x y n d = true then 1 else 0) := by
  obtain ⟨-, ⟨n1, n2⟩, -⟩ := id F
  intro n
  induction n with
  | zero =>
    intro d fu hd hfu
    obtain ⟨fu, rfl⟩ : ∃ k, fu = k + 1 := ⟨fu - 1, by omega⟩
    rw [f_A_isFreeButFor_3, S.f0, R.nd, tLe (by omega) (by omega) (by omega) (by omega), if_pos (by omega)]
    rfl
  | succ n ih =>
    intro d fu hd hfu
    obtain ⟨fu, rfl⟩ : ∃ k, fu = k + 1 := ⟨fu - 1, by omega⟩
    have hd10 : d < 10 := by omega
    have h2 : (d : Int) < z 185 := by omega
    have hW := F.wall hd10 h2
    have hD := F.2.2.2.2.2.1 d hd10
    have nx : f_A_isFreeButFor_79 h (f_A_isFreeButFor_3 h fu) a (iI w) (iI f) (iI l) (iI x) (iI y) (iI d) = some (if frB z w f l x y n (d + 1) = true then 1 else 0) := by
      unfold f_A_isFreeButFor_79
      rw [lI1, iI_add]
      exact ih (d + 1) fu (by omega) (by omega)
    rw [f_A_isFreeButFor_3, nx, S.f0, R.nd, tLe (by omega) (by omega) (by omega) (by omega), if_neg (by omega), lI10, tLe (by omega) (by omega) (by omega) (by omega), if_neg (by omega), tEq (by omega) (by omega) (by omega) (by omega), tEq (by omega) (by omega) (by omega) (by omega), at_stands R S.bs F hd10 h2 hw, Option.bind_some, e2_ hd10, if_pos rfl, if_pos rfl, e1_ hd10, R.q6 S.bs hd10 h2, R.q3 S.bs hd10 h2, a_overlap ⟨by omega, by omega⟩ ⟨by omega, by omega⟩ ⟨by omega, by omega⟩ ⟨by omega, by omega⟩, Option.bind_some]
    rw [frB]
    by_cases c1 : d = x
    · have n5 : ¬ (d ≠ x ∧ d ≠ y ∧ z (127 + 6 * d) = w ∧ f < z (128 + 6 * d) + z (125 + 6 * d) ∧ z (128 + 6 * d) < f + l) := fun q => q.1 c1
      rw [if_pos (by omega), if_neg n5]
    · rw [if_neg (by omega)]
      by_cases c2 : d = y
      · have n5 : ¬ (d ≠ x ∧ d ≠ y ∧ z (127 + 6 * d) = w ∧ f < z (128 + 6 * d) + z (125 + 6 * d) ∧ z (128 + 6 * d) < f + l) := fun q => q.2.1 c2
        rw [if_pos (by omega), if_neg n5]
      · rw [if_neg (by omega)]
        by_cases c3 : z (127 + 6 * d) = w
        · rw [if_pos c3, if_neg (by decide)]
          by_cases c4 : f < z (128 + 6 * d) + z (125 + 6 * d) ∧ z (128 + 6 * d) < f + l
          · have n5 : d ≠ x ∧ d ≠ y ∧ z (127 + 6 * d) = w ∧ f < z (128 + 6 * d) + z (125 + 6 * d) ∧ z (128 + 6 * d) < f + l := ⟨c1, c2, c3, c4⟩
            rw [if_pos c4, if_neg (by decide), if_pos n5, if_neg (by decide)]
          · have n5 : ¬ (d ≠ x ∧ d ≠ y ∧ z (127 + 6 * d) = w ∧ f < z (128 + 6 * d) + z (125 + 6 * d) ∧ z (128 + 6 * d) < f + l) := fun q => c4 q.2.2.2
            rw [if_neg c4, if_pos rfl, if_neg n5]
        · have n5 : ¬ (d ≠ x ∧ d ≠ y ∧ z (127 + 6 * d) = w ∧ f < z (128 + 6 * d) + z (125 + 6 * d) ∧ z (128 + 6 * d) < f + l) := fun q => c3 q.2.2.1
          rw [if_neg c3, if_pos rfl, if_neg n5]
theorem a_isFree (S : FS a b p) (R : RepS h b z) (F : WF z) {w f l : Int} {x y : Nat} (hw : 0 ≤ w ∧ w < 4) (hf : 0 ≤ f ∧ f < 30) (hl : 0 ≤ l ∧ l ≤ 9) (hx : x < 10) (hy : y < 10) : f_A_isFreeButFor h a (iI w) (iI f) (iI l) (iI x) (iI y) = some (if frZ z w f l x y = true then 1 else 0) := by
  obtain ⟨-, ⟨n1, n2⟩, -⟩ := id F
  unfold f_A_isFreeButFor frZ
  rw [lI0]
  exact a_isFree1 S R F hw hf hl hx hy (z 185).toNat 0 4096 (by omega) (by omega)
theorem a_who1 (S : FS a b p) (R : RepS h b z) (F : WF z) {w m : Int} (hw : 0 ≤ w ∧ w < 4) (hm : 0 ≤ m ∧ m < 30) : ∀ (n d fu : Nat), (d : Int) + n = z 185 → n < fu → f_A_whoStandsAt_2 h fu a (iI w) (iI m) (iI d) = some (iI (atF z w m n d)) := by
  obtain ⟨-, ⟨n1, n2⟩, -⟩ := id F
  intro n
  induction n with
  | zero =>
    intro d fu hd hfu
    obtain ⟨fu, rfl⟩ : ∃ k, fu = k + 1 := ⟨fu - 1, by omega⟩
    rw [f_A_whoStandsAt_2, S.f0, R.nd, tLe (by omega) (by omega) (by omega) (by omega), if_pos (by omega), lI1, iI_neg]
    rfl
  | succ n ih =>
    intro d fu hd hfu
    obtain ⟨fu, rfl⟩ : ∃ k, fu = k + 1 := ⟨fu - 1, by omega⟩
    have hd10 : d < 10 := by omega
    have h2 : (d : Int) < z 185 := by omega
    have hW := F.wall hd10 h2
    have hD := F.2.2.2.2.2.1 d hd10
    have nx : f_A_whoStandsAt_59 h (f_A_whoStandsAt_2 h fu) a (iI w) (iI m) (iI d) = some (iI (atF z w m n (d + 1))) := by
      unfold f_A_whoStandsAt_59
      rw [lI1, iI_add]
      exact ih (d + 1) fu (by omega) (by omega)
    rw [f_A_whoStandsAt_2, nx, S.f0, R.nd, tLe (by omega) (by omega) (by omega) (by omega), if_neg (by omega), lI10, tLe (by omega) (by omega) (by omega) (by omega), if_neg (by omega), at_stands R S.bs F hd10 h2 hw, Option.bind_some, e2_ hd10, if_pos rfl, if_pos rfl, e1_ hd10, R.q6 S.bs hd10 h2, R.q3 S.bs hd10 h2, lI1, a_overlap ⟨by omega, by omega⟩ ⟨by omega, by omega⟩ ⟨by omega, by omega⟩ ⟨by omega, by omega⟩, Option.bind_some, atF]
    by_cases c3 : z (127 + 6 * d) = w
    · rw [if_pos c3, if_neg (by decide)]
      by_cases c4 : m < z (128 + 6 * d) + z (125 + 6 * d) ∧ z (128 + 6 * d) < m + 1
      · have n5 : z (127 + 6 * d) = w ∧ z (128 + 6 * d) ≤ m ∧ m < z (128 + 6 * d) + z (125 + 6 * d) := ⟨c3, by omega, c4.1⟩
        rw [if_pos c4, if_neg (by decide), if_pos n5]
      · have n5 : ¬ (z (127 + 6 * d) = w ∧ z (128 + 6 * d) ≤ m ∧ m < z (128 + 6 * d) + z (125 + 6 * d)) := fun q => c4 ⟨q.2.2, by have := q.2.1; omega⟩
        rw [if_neg c4, if_pos rfl, if_neg n5]
    · have n5 : ¬ (z (127 + 6 * d) = w ∧ z (128 + 6 * d) ≤ m ∧ m < z (128 + 6 * d) + z (125 + 6 * d)) := fun q => c3 q.1
      rw [if_neg c3, if_pos rfl, if_neg n5]
theorem a_who (S : FS a b p) (R : RepS h b z) (F : WF z) {w m : Int} (hw : 0 ≤ w ∧ w < 4) (hm : 0 ≤ m ∧ m < 30) : f_A_whoStandsAt h a (iI w) (iI m) = some (iI (atZ z w m)) := by
  obtain ⟨-, ⟨n1, n2⟩, -⟩ := id F
  unfold f_A_whoStandsAt atZ
  rw [lI0]
  exact a_who1 S R F hw hm (z 185).toNat 0 4096 (by omega) (by omega)
theorem st_len (R : RepS h b z) (B : BS b) (F : WF z) {w : Int} (hw : 0 ≤ w ∧ w < z 184) : f_S_lengthOf h b (iI w) = some (iI (z (31 * w.toNat))) := by
  obtain ⟨⟨w1, w2⟩, -⟩ := id F
  rw [s_lengthOf R B F ⟨by omega, by omega⟩, if_pos hw]
theorem a_ends (S : FS a b p) (R : RepS h b z) (F : WF z) {d : Nat} (hd : d < 10) (h2 : (d : Int) < z 185) : f_A_endsOf h a (iI d) = some (iI (endZ z d)) := by
  have hW := F.wall hd h2
  have hD := F.2.2.2.2.2.1 d hd
  have hS := F.2.2.2.2.2.2.1 d hd h2
  unfold f_A_endsOf endZ
  rw [S.f0, st_stands R S.bs F hd h2, Option.bind_some]
  by_cases c : z (127 + 6 * d) = -1
  · rw [if_pos c, if_pos c, if_pos rfl, lI0]
  · have hL := F.2.2.2.1 (z (127 + 6 * d)).toNat (by omega)
    rw [if_neg c, if_neg c, if_neg (by decide), e2_ hd, if_pos rfl, e1_ hd, R.q6 S.bs hd h2, lI0, tEq (by omega) (by omega) (by omega) (by omega)]
    have e30 : ∀ s : Int, f_A_endsOf_30 h a (iI d) (iI s) = some (iI (s + (if z (128 + 6 * d) + z (125 + 6 * d) = z (31 * (z (127 + 6 * d)).toNat) then 1 else 0))) := by
      intro s
      unfold f_A_endsOf_30
      rw [e2_ hd, if_pos rfl, if_pos rfl, if_pos rfl, e1_ hd, S.f0, R.q5 S.bs hd h2, R.q6 S.bs hd h2, R.q3 S.bs hd h2, st_len R S.bs F ⟨by omega, by omega⟩, Option.bind_some, iI_add, tEq (by omega) (by omega) (by omega) (by omega), lI1, iI_add]
      by_cases c2 : z (128 + 6 * d) + z (125 + 6 * d) = z (31 * (z (127 + 6 * d)).toNat)
      · rw [if_pos c2, if_pos c2]
      · rw [if_neg c2, if_neg c2, Int.add_zero]
    rw [lI1, e30, e30]
    by_cases c3 : z (128 + 6 * d) = 0
    · rw [if_pos c3, if_pos c3]
    · rw [if_neg c3, if_neg c3]
theorem a_beside (S : FS a b p) (R : RepS h b z) (F : WF z) {d e : Nat} (hd : d < 10) (h2 : (d : Int) < z 185) (he : e < 10) (h3 : (e : Int) < z 185) : f_A_areNeighbours h a (iI d) (iI e) = some (if nbr z d e then 1 else 0) := by
  have hW := F.wall hd h2
  have hD := F.2.2.2.2.2.1 d hd
  have hW' := F.wall he h3
  have hD' := F.2.2.2.2.2.1 e he
  unfold f_A_areNeighbours f_A_areNeighbours_107
  rw [S.f0, st_stands R S.bs F hd h2, st_stands R S.bs F he h3, Option.bind_some, Option.bind_some, e2_ hd, e2_ he, if_pos rfl, if_pos rfl, if_pos rfl, if_pos rfl, if_pos rfl, if_pos rfl, if_pos rfl, if_pos rfl, e1_ hd, e1_ he, R.q5 S.bs hd h2, R.q5 S.bs he h3, R.q6 S.bs hd h2, R.q6 S.bs he h3, R.q3 S.bs hd h2, R.q3 S.bs he h3, iI_add, iI_add, tEq (by omega) (by omega) (by omega) (by omega), tEq (by omega) (by omega) (by omega) (by omega), tEq (by omega) (by omega) (by omega) (by omega)]
  by_cases c1 : z (127 + 6 * d) = -1
  · rw [if_pos c1, if_pos rfl, if_neg (fun q => q.1 c1)]
  · rw [if_neg c1, if_neg (by decide)]
    by_cases c2 : z (127 + 6 * e) = -1
    · rw [if_pos c2, if_pos rfl, if_neg (fun q => c1 (q.2.1.trans c2))]
    · rw [if_neg c2, if_neg (by decide)]
      by_cases c3 : z (127 + 6 * d) = z (127 + 6 * e)
      · rw [if_pos c3]
        by_cases c4 : z (128 + 6 * d) + z (125 + 6 * d) = z (128 + 6 * e)
        · rw [if_pos c4, if_pos ⟨c1, c3, Or.inl c4⟩]
        · rw [if_neg c4]
          by_cases c5 : z (128 + 6 * e) + z (125 + 6 * e) = z (128 + 6 * d)
          · rw [if_pos c5, if_pos ⟨c1, c3, Or.inr c5⟩]
          · rw [if_neg c5, if_neg (fun q => q.2.2.elim c4 c5)]
      · rw [if_neg c3, if_neg (fun q => c3 q.2.1)]
end FAIRQ
