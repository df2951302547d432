/-! questions: what is left of the sums -/
section ASK2
variable {h g : HP} {a b p : Nat} {z : Nat → Int} {B : Int}
def hasZ (z : Nat → Int) : Int := sm (fun d => if z (127 + 6 * d) = -1 then 0 else 1) (z 185).toNat 0
def metZ (z : Nat → Int) : Int := sm (fun d => z (31 * d)) (z 184).toNat 0
def fmtZ (z : Nat → Int) : Int := sm (fun d => freZ z d) (z 184).toNat 0
def pltZ (z : Nat → Int) : Int := sm (fun d => plgZ z d) (z 184).toNat 0
noncomputable def hdtZ (z : Nat → Int) : Int := sm (fun d => (shareZ z).2.1 d) (z 185).toNat 0
noncomputable def lktZ (z : Nat → Int) : Int := sm (fun d => lackZ z d) (z 185).toNat 0
def rvtZ (z : Nat → Int) : Int := sm (fun d => rivZ z d) (z 185).toNat 0
def stwZ (z : Nat → Int) (w : Int) : Int := sm (fun d => if z (127 + 6 * d) = w then 1 else 0) (z 185).toNat 0
def frwZ (z : Nat → Int) (w : Int) : Int := sm (fun d => if z (127 + 6 * d) = w then z (125 + 6 * d) else 0) (z 185).toNat 0
theorem a_standing (S : FS a b p) (R : RepS h b z) (F : WF z) : f_A_standing h a = some (iI (hasZ z)) := by
  obtain ⟨⟨w1, w2⟩, ⟨n1, n2⟩, -⟩ := id F
  have := a_standing1 S R F (z 185).toNat 0 4096 0 (by omega) (by omega)
  rw [Int.zero_add] at this
  unfold f_A_standing
  rw [lI0]
  exact this
theorem a_allMetres (S : FS a b p) (R : RepS h b z) (F : WF z) : f_A_allMetres h a = some (iI (metZ z)) := by
  obtain ⟨⟨w1, w2⟩, ⟨n1, n2⟩, -⟩ := id F
  have := a_metres1 S R F (z 184).toNat 0 4096 0 (by omega) (by omega)
  rw [Int.zero_add] at this
  unfold f_A_allMetres
  rw [lI0]
  exact this
theorem a_allFree (S : FS a b p) (R : RepS h b z) (F : WF z) : f_A_allFreeMetres h a = some (iI (fmtZ z)) := by
  obtain ⟨⟨w1, w2⟩, ⟨n1, n2⟩, -⟩ := id F
  have := a_allFree1 S R F (z 184).toNat 0 4096 0 (by omega) (by omega)
  rw [Int.zero_add] at this
  unfold f_A_allFreeMetres
  rw [lI0]
  exact this
theorem a_allPlugs (S : FS a b p) (R : RepS h b z) (F : WF z) : f_A_allPlugs h a = some (iI (pltZ z)) := by
  obtain ⟨⟨w1, w2⟩, ⟨n1, n2⟩, -⟩ := id F
  have := a_allPlugs1 S R F (z 184).toNat 0 4096 0 (by omega) (by omega)
  rw [Int.zero_add] at this
  unfold f_A_allPlugs
  rw [lI0]
  exact this
theorem a_allHad (S : FS a b p) (R : RepS h b z) (RP : RepPw h p (shareZ z)) (F : WF z) : f_A_allPlugsHad h a = some (iI (hdtZ z)) := by
  obtain ⟨⟨w1, w2⟩, ⟨n1, n2⟩, -⟩ := id F
  have := a_had1 S R F RP (z 185).toNat 0 4096 0 (by omega) (by omega)
  rw [Int.zero_add] at this
  unfold f_A_allPlugsHad
  rw [lI0]
  exact this
theorem a_allLack (S : FS a b p) (R : RepS h b z) (RP : RepPw h p (shareZ z)) (F : WF z) : f_A_allPlugsLacking h a = some (iI (lktZ z)) := by
  obtain ⟨⟨w1, w2⟩, ⟨n1, n2⟩, -⟩ := id F
  have := a_lacks1 S R F RP (z 185).toNat 0 4096 0 (by omega) (by omega)
  rw [Int.zero_add] at this
  unfold f_A_allPlugsLacking
  rw [lI0]
  exact this
theorem a_rents (S : FS a b p) (R : RepS h b z) (RP : RepPw h p (shareZ z)) (F : WF z) : f_A_rents h a = some (iI (rtsZ z)) := by
  obtain ⟨⟨w1, w2⟩, ⟨n1, n2⟩, -⟩ := id F
  have := a_rents1 S R F RP (z 185).toNat 0 4096 0 (by omega) (by omega)
  rw [Int.zero_add] at this
  unfold f_A_rents
  rw [lI0]
  exact this
theorem a_allOwed (S : FS a b p) (R : RepS h b z) (F : WF z) : f_A_allOwed h a = some (iI (owsZ z)) := by
  obtain ⟨⟨w1, w2⟩, ⟨n1, n2⟩, -⟩ := id F
  have := a_owed1 S R F (z 185).toNat 0 4096 0 (by omega) (by omega)
  rw [Int.zero_add] at this
  unfold f_A_allOwed
  rw [lI0]
  exact this
theorem rvt_b (F : WF z) : ∀ n i : Nat, i + n ≤ 10 → 0 ≤ sm (fun d => rivZ z d) n i ∧ sm (fun d => rivZ z d) n i ≤ n * 10 := fun n i h => sm_b (G := fun d => rivZ z d) (M := 10) (fun j _ => riv_b F j) n i (by omega)
theorem a_riv2 (S : FS a b p) (R : RepS h b z) (F : WF z) : ∀ (n d fu : Nat) (acc : Int), (d : Int) + n = z 185 → n < fu → 0 ≤ acc → acc ≤ d * 10 → f_A_rivalPairs_4 h fu a (iI acc) (iI d) = some (iI ((acc + sm (fun d => rivZ z d) n d) / 2)) := by
  obtain ⟨⟨w1, w2⟩, ⟨n1, n2⟩, -⟩ := id F
  intro n
  induction n with
  | zero =>
    intro d fu acc hd hfu h0 h1
    obtain ⟨fu, rfl⟩ : ∃ k, fu = k + 1 := ⟨fu - 1, by omega⟩
    rw [f_A_rivalPairs_4, S.f0, R.nd, tLe (by omega) (by omega) (by omega) (by omega), if_pos (by omega), lI2, iI_div (by omega) (by omega) (by omega) (by omega)]
    show some (iI (acc / 2)) = some (iI ((acc + 0) / 2))
    rw [Int.add_zero]
  | succ n ih =>
    intro d fu acc hd hfu h0 h1
    obtain ⟨fu, rfl⟩ : ∃ k, fu = k + 1 := ⟨fu - 1, by omega⟩
    have hr := riv_b F d
    have nx := ih (d + 1) fu (acc + rivZ z d) (by omega) (by omega) (by omega) (by omega)
    show _ = some (iI ((acc + (rivZ z d + sm (fun d => rivZ z d) n (d + 1))) / 2))
    rw [f_A_rivalPairs_4, S.f0, R.nd, tLe (by omega) (by omega) (by omega) (by omega), if_neg (by omega), a_rivals S R F (by omega) (by omega), Option.bind_some, iI_add, lI1, iI_add, show (d : Int) + 1 = ((d + 1 : Nat) : Int) by omega, nx, Int.add_assoc]
theorem a_rivPairs (S : FS a b p) (R : RepS h b z) (F : WF z) : f_A_rivalPairs h a = some (iI (rvtZ z / 2)) := by
  obtain ⟨⟨w1, w2⟩, ⟨n1, n2⟩, -⟩ := id F
  have := a_riv2 S R F (z 185).toNat 0 4096 0 (by omega) (by omega) (by omega) (by omega)
  rw [Int.zero_add] at this
  unfold f_A_rivalPairs
  rw [lI0]
  exact this
theorem a_stAt (S : FS a b p) (R : RepS h b z) (F : WF z) {x : Int} (hx : 0 ≤ x ∧ x < 4) : f_A_standingAt h a (iI x) = some (iI (stwZ z x)) := by
  obtain ⟨⟨w1, w2⟩, ⟨n1, n2⟩, -⟩ := id F
  have := a_stAt1 S R F hx (z 185).toNat 0 4096 0 (by omega) (by omega)
  rw [Int.zero_add] at this
  unfold f_A_standingAt
  rw [lI0]
  exact this
theorem a_frF (S : FS a b p) (R : RepS h b z) (F : WF z) {x : Int} (hx : 0 ≤ x ∧ x < z 184) : f_A_freeByFrontages h a (iI x) = some (iI (z (31 * x.toNat) - frwZ z x)) := by
  obtain ⟨⟨w1, w2⟩, ⟨n1, n2⟩, -⟩ := id F
  have := a_frF1 S R F (x := x) (by omega) (z 185).toNat 0 4096 (z (31 * x.toNat)) (by omega) (by omega)
  unfold f_A_freeByFrontages
  rw [S.f0, st_len R S.bs F hx, Option.bind_some, lI0]
  exact this
theorem lr_le (z : Nat → Int) (w : Int) : ∀ (n : Nat) (m b s r : Int), 0 ≤ r → r ≤ m → b ≤ m → (lrF z w n m b s r).1 ≤ m + n := by
  intro n
  induction n with
  | zero => intro m b s r _ _ h; show b ≤ m + 0; omega
  | succ n ih =>
    intro m b s r h0 h1 h2
    have hr := run_b z w m h0 h1
    have hb : (if b < runZ z w m r then runZ z w m r else b) ≤ m + 1 := by split <;> omega
    have := ih (m + 1) (if b < runZ z w m r then runZ z w m r else b) (if b < runZ z w m r then m - runZ z w m r + 1 else s) (runZ z w m r) hr.1 hr.2 hb
    rw [lrF]
    omega
theorem row_le (z : Nat → Int) (w : Nat) : (rowZ z w).1 ≤ (z (31 * w)).toNat := by
  have := lr_le z w (z (31 * w)).toNat 0 0 (-1) 0 (by omega) (by omega) (by omega)
  unfold rowZ
  omega
theorem a_startRow (S : FS a b p) (R : RepS h b z) (F : WF z) {w : Nat} (hw : (w : Int) < z 184) : f_A_startOfLongestFreeRow h a (iI w) = some (iI (rowZ z w).2) := by
  obtain ⟨⟨w1, w2⟩, -⟩ := id F
  have hL := F.2.2.2.1 w (by omega)
  have hb : 0 ≤ (rowZ z w).1 ∧ (rowZ z w).1 ≤ 1000 := by
    have h1 := (lrF_is z w (z (31 * w)).toNat 0 0 (-1) 0 (Int.le_refl _)).1
    have h2 := row_le z w
    exact ⟨h1, by omega⟩
  have := a_start1 S R F hw hb (z (31 * w)).toNat 0 0 4096 (by omega) (by omega) (by omega) (by omega) (by omega)
  rw [row_start] at this
  unfold f_A_startOfLongestFreeRow
  rw [a_row S R F hw, Option.bind_some, lI0]
  exact this
theorem share_src (F : WF z) : ∀ d k : Nat, d < 10 → k < 3 → (shareZ z).2.1 d ≤ k → (shareZ z).2.2 (3 * d + k) = -1 := by
  have sv : ∀ (d n : Nat) (s : Pw), (∀ e, 0 ≤ s.2.1 e) → s.2.1 d + n ≤ 3 → (∀ e k : Nat, k < 3 → s.2.1 e ≤ k → s.2.2 (3 * e + k) = -1) → ∀ e k : Nat, k < 3 → (serveZ z d n s).2.1 e ≤ k → (serveZ z d n s).2.2 (3 * e + k) = -1 := by
    intro d n
    induction n with
    | zero => intro s _ _ h e k hk hle; exact h e k hk hle
    | succ n ih =>
      intro s h0 h3 h e k hk hle
      rw [serveZ] at hle ⊢
      by_cases c : nearZ z s.1 d = -1
      · rw [if_pos c] at hle ⊢
        exact h e k hk hle
      · rw [if_neg c] at hle ⊢
        refine ih (plugZ z d s) (fun e => ?_) ?_ (fun e k hk hle => ?_) e k hk hle
        · show 0 ≤ uI s.2.1 d (s.2.1 d + 1) e
          have := h0 e
          have := h0 d
          unfold uI
          split <;> omega
        · show uI s.2.1 d (s.2.1 d + 1) d + n ≤ 3
          rw [uI_s]
          omega
        · have hle2 : uI s.2.1 d (s.2.1 d + 1) e ≤ k := hle
          show uI s.2.2 (3 * d + (s.2.1 d).toNat) (nearZ z s.1 d) (3 * e + k) = -1
          have := h0 d
          by_cases q : e = d
          · rw [q, uI_s] at hle2
            rw [uI_n _ _ (by omega), q]
            exact h d k hk (by omega)
          · rw [uI_n _ _ q] at hle2
            rw [uI_n _ _ (by omega)]
            exact h e k hk hle2
  have sh : ∀ d : Nat, d ≤ 10 → ∀ e k : Nat, k < 3 → (shareTo z d).2.1 e ≤ k → (shareTo z d).2.2 (3 * e + k) = -1 := by
    intro d
    induction d with
    | zero => intro _ e k _ _; rfl
    | succ d ih =>
      intro hd
      rw [shareTo]
      by_cases c : z (127 + 6 * d) = -1
      · rw [if_pos c]
        exact ih (by omega)
      · rw [if_neg c]
        have i1 := share_inv F d (by omega)
        have hw := F.2.2.2.2.2.1 d (by omega)
        refine sv d _ _ (fun e => (i1.2.2 e).1) ?_ (ih (by omega))
        rw [i1.2.1 d (Nat.le_refl _)]
        omega
  obtain ⟨-, ⟨n1, n2⟩, -⟩ := id F
  intro d k _ hk hle
  exact sh (z 185).toNat (by omega) d k hk hle
theorem w_plug (P : PS p) (F : WF z) (RP : RepPw h p (shareZ z)) {d k : Nat} (hd : d < 10) (hk : k < 3) : f_W_metreOfPlug h p (iI d) (iI k) = some (iI ((shareZ z).2.2 (3 * d + k))) := by
  have hb := had_b F d
  unfold f_W_metreOfPlug
  rw [lI0, tLt (by omega) (by omega) (by omega) (by omega), if_neg (by omega), lI3, tLe (by omega) (by omega) (by omega) (by omega), if_neg (by omega), w_had P RP hd, Option.bind_some, tLe (by omega) (by omega) (by omega) (by omega)]
  by_cases c : (shareZ z).2.1 d ≤ k
  · rw [if_pos c, f_W_metreOfPlug_22, f_W_metreOfPlug_23, if_pos rfl, share_src F d k hd hk c]
    rfl
  · have e1 : (iI ((d : Int) * 3 + k)).toNatClampNeg = 3 * d + k := by rw [iI_cl (by omega) (by omega)]; omega
    rw [if_neg c, f_W_metreOfPlug_23, if_neg (by decide), lI3, iI_mul, iI_add, iI_ib (by omega) (by omega) (by omega), if_pos rfl, e1, P.f1, RP.2.2 d k hd hk (by omega)]
end ASK2
