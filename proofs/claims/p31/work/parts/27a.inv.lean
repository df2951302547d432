/-! a wall that is there has its length, no day is below 0: it stays so -/
def DX (N : Int) (z : Nat → Int) : Prop := WX z ∧ 0 ≤ z 186 ∧ z 186 ≤ N
section WALLX
variable {z z' : Nat → Int} {B N N' : Int} {t : Nat → Int} {n : Nat}
theorem WX.of (h : WX z) (e : z' 184 = z 184) (e2 : ∀ w : Nat, w < 4 → z' (31 * w) = z (31 * w)) : WX z' := fun w hw h2 => by
  rw [e2 w hw]
  exact h w hw (by rw [← e]; exact h2)
theorem DX.of (h : DX N z) (e : z' 184 = z 184) (e2 : ∀ w : Nat, w < 4 → z' (31 * w) = z (31 * w)) (e3 : z' 186 = z 186) : DX N z' := ⟨h.1.of e e2, by rw [e3]; exact h.2.1, by rw [e3]; exact h.2.2⟩
theorem DX.mono (h : DX N z) (hN : N ≤ N') : DX N' z := ⟨h.1, h.2.1, by have := h.2.2; omega⟩
theorem DX.u (h : DX N z) {k : Nat} {v : Int} (h1 : k ≠ 184 ∧ k ≠ 186) (h2 : k ≠ 0 ∧ k ≠ 31 ∧ k ≠ 62 ∧ k ≠ 93) : DX N (uI z k v) := h.of (uI_n _ _ (by omega)) (fun w hw => uI_n _ _ (by omega)) (uI_n _ _ (by omega))
theorem DX.st (h : DX N z) {d : Nat} {w f : Int} (hd : d < 10) : DX N (zst z d w f) := h.of (zst_n z d w f (by omega) (by omega)) (fun v hv => zst_n z d w f (by omega) (by omega)) (zst_n z d w f (by omega) (by omega))
theorem DX.sw (h : DX N z) {d e : Nat} (hd : d < 10) (he : e < 10) : DX N (zsw z d e) := by
  unfold zsw zsx
  exact ((h.st hd).st he).u (by omega) (by omega)
theorem DX.wl (F : WF z) (h : DX N z) {v : Int} (h4 : z 184 < 4) (hv : 4 ≤ v) : DX N (zwl z v) := by
  have hn := F.1
  refine ⟨fun w hw h2 => ?_, ?_, ?_⟩
  · have e : zwl z v 184 = z 184 + 1 := by unfold zwl; rw [uI_s]
    rw [e] at h2
    by_cases c : w = (z 184).toNat
    · subst c
      unfold zwl
      rw [uI_n _ _ (by omega), uI_s]
      exact hv
    · rw [zwl_n F h4 v (by omega) (by omega)]
      exact h.1 w hw (by omega)
  · rw [zwl_n F h4 v (by omega) (by omega)]; exact h.2.1
  · rw [zwl_n F h4 v (by omega) (by omega)]; exact h.2.2
theorem DX.dl (F : WF z) (h : DX N z) {g f w : Int} (h4 : z 185 < 10) : DX N (zdl z g f w) := by
  have hn := F.2.1
  exact h.of (zdl_n z g f w (by decide) (by omega)) (fun v hv => zdl_n z g f w (by omega) (by omega)) (zdl_n z g f w (by decide) (by omega))
theorem DX.dy (h : DX N z) {k : Nat} (hk : k ≤ 60) : DX (N + 60) (zdy z k) := by
  have e : zdy z k 186 = z 186 + k := by
    unfold zdy dysZ
    rw [uI_n _ _ (by decide), uI_n _ _ (by decide), uI_s]
  refine ⟨?_, ?_, ?_⟩
  · refine h.1.of ?_ (fun w hw => ?_)
    · unfold zdy dysZ
      rw [uI_n _ _ (by decide), uI_n _ _ (by decide), uI_n _ _ (by decide)]
      exact dyA_n z _ _ (by decide)
    · unfold zdy dysZ
      rw [uI_n _ _ (by omega), uI_n _ _ (by omega), uI_n _ _ (by omega)]
      exact dyA_n z _ _ (by omega)
  · rw [e]; have := h.2.1; omega
  · rw [e]; have := h.2.2; omega
theorem DX.ini : DX 0 zini := ⟨fun w hw h2 => by
  rw [zini_0 (by decide)] at h2
  omega, by rw [zini_0 (by decide)]; omega, by rw [zini_0 (by decide)]; omega⟩
theorem DX.ex (K : OKz B z) (h : DX N z) (r : Nat) (a b c : Int) : DX (N + 60) (exR r a b c z).2 := by
  have F := K.1
  have hn := F.1
  have hd := F.2.1
  have h' : DX (N + 60) z := h.mono (by omega)
  unfold exR
  split
  · unfold doW
    split
    · exact h'.wl F (by omega) (by omega)
    · exact h'
  · split
    · unfold doO
      split
      · rename_i q
        obtain ⟨⟨q1, q2, q3, q4⟩, -⟩ := q
        have hL := F.2.2.2.1 a.toNat (by omega)
        exact h'.u (by omega) (by omega)
      · exact h'
    · split
      · unfold doD
        split
        · exact h'.dl F (by omega)
        · exact h'
      · split
        · unfold doP
          split
          · rename_i q
            obtain ⟨⟨q1, q2⟩, -⟩ := q
            split
            · exact h'.st (by omega)
            · exact h'.u (by omega) (by omega)
          · exact h'
        · split
          · unfold doL
            split
            · rename_i q
              obtain ⟨⟨q1, q2⟩, -⟩ := q
              exact h'.st (by omega)
            · exact h'
          · split
            · unfold doS
              split
              · rename_i q
                obtain ⟨⟨q1, q2⟩, ⟨q3, q4⟩, -⟩ := q
                split
                · exact h'.sw (by omega) (by omega)
                · exact h'.u (by omega) (by omega)
              · exact h'
            · split
              · unfold doN
                split
                · exact h.dy (by omega)
                · exact h'
              · unfold doE
                split
                · exact h'.u (by omega) (by omega)
                · exact h'
theorem prs_s (t : Nat → Int) (n m pos : Nat) (lo : Int) (z : Nat → Int) : prs t n (m + 1) pos lo z = if n ≤ pos then (-1, lo, z) else if (cmS t n pos).1 = true then prs t n m (cmS t n pos).2 (lo + boI (!(cmX t n pos z).1)) (cmX t n pos z).2 else (((cmS t n pos).2 : Nat), lo, z) := by rw [prs]
theorem wx_prs : ∀ (m pos : Nat) (lo B N : Int) (z : Nat → Int), OKz B z → DX N z → DX (N + 60 * m) (prs t n m pos lo z).2.2 := by
  intro m
  induction m with
  | zero => intro pos lo B N z _ h; exact h.mono (by omega)
  | succ m ih =>
    intro pos lo B N z K h
    rw [prs_s]
    by_cases c : n ≤ pos
    · rw [if_pos c]; exact h.mono (by omega)
    · rw [if_neg c]
      by_cases k : (cmS t n pos).1 = true
      · rw [if_pos k]
        exact (ih _ _ _ _ _ (cmX_ok K pos) (DX.ex K h _ _ _ _)).mono (by omega)
      · rw [if_neg k]; exact h.mono (by omega)
end WALLX
def XA (N : Int) (A : AS) : Prop := A.2.2.1 ≤ 14 ∧ DX N A.1 ∧ (∀ j : Nat, j < A.2.2.1 → DX N (A.2.1 j)) ∧ ∀ s : Nat, s < 2 → A.2.2.2.1 s = true → DX N (A.2.2.2.2.1 s)
theorem XA.mono {N N' : Int} {A : AS} (X : XA N A) (h : N ≤ N') : XA N' A := ⟨X.1, X.2.1.mono h, fun j hj => (X.2.2.1 j hj).mono h, fun s hs q => (X.2.2.2 s hs q).mono h⟩
theorem XA.push {N N' : Int} {A : AS} {z' : Nat → Int} (X : XA N A) (h : DX N' z') (hN : N ≤ N') : XA N' (pushA A z') := by
  obtain ⟨x1, x2, x3, x4⟩ := X.mono hN
  refine ⟨cN_le _ x1, h, fun j hj => ?_, x4⟩
  have hj : j < cN A.2.2.1 := hj
  show DX N' (ysN A.2.1 A.2.2.1 A.1 j)
  unfold cN at hj
  unfold ysN
  by_cases c : A.2.2.1 < 14
  · rw [if_pos c] at hj ⊢
    split
    · exact x2
    · exact x3 j (by omega)
  · rw [if_neg c] at hj ⊢
    split
    · exact x2
    · exact x3 (j + 1) (by omega)
theorem XA.ini : XA 0 iniA := ⟨by decide, DX.ini, fun j hj => absurd hj (Nat.not_lt_zero j), fun s _ q => absurd q Bool.false_ne_true⟩
