/-! a wall that is there has its length: it stays so -/
section WALLX
variable {z z' : Nat → Int} {B : Int} {t : Nat → Int} {n : Nat}
theorem WX.of (h : WX z) (e : z' 184 = z 184) (e2 : ∀ w : Nat, w < 4 → z' (31 * w) = z (31 * w)) : WX z' := fun w hw h2 => by
  rw [e2 w hw]
  exact h w hw (by rw [← e]; exact h2)
theorem WX.u (h : WX z) {k : Nat} {v : Int} (h1 : k ≠ 184) (h2 : k ≠ 0 ∧ k ≠ 31 ∧ k ≠ 62 ∧ k ≠ 93) : WX (uI z k v) := h.of (uI_n _ _ (by omega)) (fun w hw => uI_n _ _ (by omega))
theorem WX.st (h : WX z) {d : Nat} {w f : Int} (hd : d < 10) : WX (zst z d w f) := h.of (zst_n z d w f (by omega) (by omega)) (fun v hv => zst_n z d w f (by omega) (by omega))
theorem WX.sw (h : WX z) {d e : Nat} (hd : d < 10) (he : e < 10) : WX (zsw z d e) := by
  unfold zsw zsx
  exact ((h.st hd).st he).u (by omega) (by omega)
theorem WX.wl (F : WF z) (h : WX z) {v : Int} (h4 : z 184 < 4) (hv : 4 ≤ v) : WX (zwl z v) := by
  have hn := F.1
  intro w hw h2
  have e : zwl z v 184 = z 184 + 1 := by unfold zwl; rw [uI_s]
  rw [e] at h2
  by_cases c : w = (z 184).toNat
  · subst c
    unfold zwl
    rw [uI_n _ _ (by omega), uI_s]
    exact hv
  · rw [zwl_n F h4 v (by omega) (by omega)]
    exact h w hw (by omega)
theorem WX.dl (F : WF z) (h : WX z) {g f w : Int} (h4 : z 185 < 10) : WX (zdl z g f w) := by
  have hn := F.2.1
  exact h.of (zdl_n z g f w (by decide) (by omega)) (fun v hv => zdl_n z g f w (by omega) (by omega))
theorem WX.dy (h : WX z) {k : Nat} : WX (zdy z k) := by
  unfold zdy dysZ
  refine WX.u (WX.u (WX.u ?_ (by omega) (by omega)) (by omega) (by omega)) (by omega) (by omega)
  exact h.of (dyA_n z _ _ (by decide)) (fun w hw => dyA_n z _ _ (by omega))
theorem WX.ini : WX zini := fun w hw h2 => by
  rw [zini_0 (by decide)] at h2
  omega
theorem WX.ex (K : OKz B z) (h : WX z) (r : Nat) (a b c : Int) : WX (exR r a b c z).2 := by
  have F := K.1
  have hn := F.1
  have hd := F.2.1
  unfold exR
  split
  · unfold doW
    split
    · exact h.wl F (by omega) (by omega)
    · exact h
  · split
    · unfold doO
      split
      · rename_i q
        obtain ⟨⟨q1, q2, q3, q4⟩, -⟩ := q
        have hL := F.2.2.2.1 a.toNat (by omega)
        exact h.u (by omega) (by omega)
      · exact h
    · split
      · unfold doD
        split
        · exact h.dl F (by omega)
        · exact h
      · split
        · unfold doP
          split
          · rename_i q
            obtain ⟨⟨q1, q2⟩, -⟩ := q
            split
            · exact h.st (by omega)
            · exact h.u (by omega) (by omega)
          · exact h
        · split
          · unfold doL
            split
            · rename_i q
              obtain ⟨⟨q1, q2⟩, -⟩ := q
              exact h.st (by omega)
            · exact h
          · split
            · unfold doS
              split
              · rename_i q
                obtain ⟨⟨q1, q2⟩, ⟨q3, q4⟩, -⟩ := q
                split
                · exact h.sw (by omega) (by omega)
                · exact h.u (by omega) (by omega)
              · exact h
            · split
              · unfold doN
                split
                · exact h.dy
                · exact h
              · unfold doE
                split
                · exact h.u (by omega) (by omega)
                · exact h
theorem prs_s (t : Nat → Int) (n m pos : Nat) (lo : Int) (z : Nat → Int) : prs t n (m + 1) pos lo z = if n ≤ pos then (-1, lo, z) else if (cmS t n pos).1 = true then prs t n m (cmS t n pos).2 (lo + boI (!(cmX t n pos z).1)) (cmX t n pos z).2 else (((cmS t n pos).2 : Nat), lo, z) := by rw [prs]
theorem wx_prs : ∀ (m pos : Nat) (lo B : Int) (z : Nat → Int), OKz B z → WX z → WX (prs t n m pos lo z).2.2 := by
  intro m
  induction m with
  | zero => intro pos lo B z _ h; exact h
  | succ m ih =>
    intro pos lo B z K h
    rw [prs_s]
    by_cases c : n ≤ pos
    · rw [if_pos c]; exact h
    · rw [if_neg c]
      by_cases k : (cmS t n pos).1 = true
      · rw [if_pos k]
        exact ih _ _ _ _ (cmX_ok K pos) (WX.ex K h _ _ _ _)
      · rw [if_neg k]; exact h
end WALLX
def XA (A : AS) : Prop := A.2.2.1 ≤ 14 ∧ WX A.1 ∧ (∀ j : Nat, j < A.2.2.1 → WX (A.2.1 j)) ∧ ∀ s : Nat, s < 2 → A.2.2.2.1 s = true → WX (A.2.2.2.2.1 s)
theorem XA.push {A : AS} {z' : Nat → Int} (X : XA A) (h : WX z') : XA (pushA A z') := by
  obtain ⟨x1, x2, x3, x4⟩ := X
  refine ⟨cN_le _ x1, h, fun j hj => ?_, x4⟩
  have hj : j < cN A.2.2.1 := hj
  show WX (ysN A.2.1 A.2.2.1 A.1 j)
  unfold cN at hj
  unfold ysN
  by_cases c : A.2.2.1 < 14
  · rw [if_pos c] at hj ⊢
    split
    · exact x2
    · exact x3 j (by omega)
  · rw [if_neg c] at hj ⊢
    split
    · exact x2
    · exact x3 (j + 1) (by omega)
theorem XA.ini : XA iniA := ⟨by decide, WX.ini, fun j hj => absurd hj (Nat.not_lt_zero j), fun s _ q => absurd q (by decide)⟩
