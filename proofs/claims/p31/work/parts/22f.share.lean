/-! share: the class -/
section SHARE
variable {b p : Nat} {z : Nat → Int}
theorem serve_tb {d : Nat} : ∀ (n : Nat) {k : Int} {s : Pw}, TBk k s → TBk (k + n) (serveZ z d n s) := by
  intro n
  induction n with
  | zero => intro k s h i hi; have := h i hi; show 0 ≤ s.1 i ∧ s.1 i ≤ _; omega
  | succ n ih =>
    intro k s h i hi
    rw [serveZ]
    by_cases c : nearZ z s.1 d = -1
    · rw [if_pos c]
      have := h i hi
      omega
    · rw [if_neg c]
      have := ih (h.plug (z := z) (d := d)) i hi
      omega
theorem serve_h {d : Nat} : ∀ (n : Nat) (s : Pw), (∀ e : Nat, e ≠ d → (serveZ z d n s).2.1 e = s.2.1 e) ∧ s.2.1 d ≤ (serveZ z d n s).2.1 d ∧ (serveZ z d n s).2.1 d ≤ s.2.1 d + n := by
  intro n
  induction n with
  | zero => intro s; exact ⟨fun _ _ => rfl, by show s.2.1 d ≤ s.2.1 d ∧ s.2.1 d ≤ _; omega⟩
  | succ n ih =>
    intro s
    rw [serveZ]
    by_cases c : nearZ z s.1 d = -1
    · rw [if_pos c]
      exact ⟨fun _ _ => rfl, by omega⟩
    · rw [if_neg c]
      obtain ⟨h1, h2, h3⟩ := ih (plugZ z d s)
      have e0 : (plugZ z d s).2.1 d = s.2.1 d + 1 := uI_s _ _ _
      refine ⟨fun e he => ?_, by omega, by omega⟩
      rw [h1 e he]
      exact uI_n _ _ he
theorem share_inv (F : WF z) : ∀ d : Nat, d ≤ 10 → TBk (3 * d) (shareTo z d) ∧ (∀ e : Nat, d ≤ e → (shareTo z d).2.1 e = 0) ∧ ∀ e : Nat, 0 ≤ (shareTo z d).2.1 e ∧ (shareTo z d).2.1 e ≤ 3 ∧ (e < 10 → (shareTo z d).2.1 e ≤ z (126 + 6 * e)) := by
  intro d
  induction d with
  | zero =>
    intro _
    refine ⟨fun i hi => ?_, fun e _ => rfl, fun e => ?_⟩
    · show (0 : Int) ≤ 0 ∧ (0 : Int) ≤ _
      omega
    · show (0 : Int) ≤ 0 ∧ (0 : Int) ≤ 3 ∧ (e < 10 → (0 : Int) ≤ _)
      exact ⟨by decide, by decide, fun he => (F.2.2.2.2.2.1 e he).2.2.2.1⟩
  | succ d ih =>
    intro hd
    obtain ⟨i1, i2, i3⟩ := ih (by omega)
    have hD := F.2.2.2.2.2.1 d (by omega)
    rw [shareTo]
    by_cases c : z (127 + 6 * d) = -1
    · rw [if_pos c]
      exact ⟨fun i hi => by have := i1 i hi; omega, fun e he => i2 e (by omega), i3⟩
    · rw [if_neg c]
      obtain ⟨h1, h2, h3⟩ := serve_h (z := z) (d := d) (z (126 + 6 * d)).toNat (shareTo z d)
      have e0 := i2 d (Nat.le_refl _)
      refine ⟨fun i hi => by have := serve_tb (d := d) (z := z) (z (126 + 6 * d)).toNat i1 i hi; omega, fun e he => ?_, fun e => ?_⟩
      · rw [h1 e (by omega)]
        exact i2 e (by omega)
      · by_cases q : e = d
        · rw [q]
          omega
        · rw [h1 e q]
          exact i3 e
theorem w_share1 (B : BS b) (F : WF z) (P : PS p) : ∀ (n d fu : Nat) (h : HP), (d : Int) + n = z 185 → n < fu → RepS h b z → RepPw h p (shareTo z d) →
    ∃ h' : HP, f_W_shareOut_18 fu p b (iI d) h = some h' ∧ RepPw h' p (shareZ z) ∧ ∀ i, i ≠ p + 1 → i ≠ p + 2 → i ≠ p + 3 → h' i = h i := by
  obtain ⟨-, ⟨n1, n2⟩, -⟩ := id F
  intro n
  induction n with
  | zero =>
    intro d fu h hd hfu R RP
    obtain ⟨fu, rfl⟩ : ∃ k, fu = k + 1 := ⟨fu - 1, by omega⟩
    refine ⟨h, ?_, ?_, fun i _ _ _ => rfl⟩
    · rw [f_W_shareOut_18, R.nd, tLe (by omega) (by omega) (by omega) (by omega), if_pos (by omega)]
    · unfold shareZ
      rw [show (z 185).toNat = d by omega]
      exact RP
  | succ n ih =>
    intro d fu h hd hfu R RP
    obtain ⟨fu, rfl⟩ : ∃ k, fu = k + 1 := ⟨fu - 1, by omega⟩
    obtain ⟨i1, i2, i3⟩ := share_inv F d (by omega)
    have hd10 : d < 10 := by omega
    have h2 : (d : Int) < z 185 := by omega
    have hD := F.2.2.2.2.2.1 d hd10
    rw [f_W_shareOut_18, R.nd, tLe (by omega) (by omega) (by omega) (by omega), if_neg (by omega), lI10, tLe (by omega) (by omega) (by omega) (by omega), if_neg (by omega), s_stands R B F ⟨by omega, by omega⟩, Option.bind_some]
    have et : (d : Int).toNat = d := by omega
    rw [et]
    by_cases c : z (127 + 6 * d) = -1
    · have n3 : ¬ (0 ≤ (d : Int) ∧ (d : Int) < z 185 ∧ z (127 + 6 * d) ≠ -1) := fun q => q.2.2 c
      rw [if_neg n3, if_pos rfl]
      unfold f_W_shareOut_46
      rw [lI1, iI_add]
      have := ih (d + 1) fu h (by omega) (by omega) R (by rw [shareTo, if_pos c]; exact RP)
      exact this
    · have n3 : (0 ≤ (d : Int) ∧ (d : Int) < z 185 ∧ z (127 + 6 * d) ≠ -1) := ⟨by omega, h2, c⟩
      have e1 : (iI (d : Int)).toNatClampNeg = d := by rw [iI_cl (by omega) (by omega)]; omega
      have e2 : ib (iI (d : Int)) 10 = true := iI_ib (by omega) (by omega) (by omega)
      have a5 : h (b + 1 + 5) d = iI (z (127 + 6 * d)) := by
        rw [show b + 1 + 5 = b + 3 + 3 by omega, R.dl 3 hd10 h2 (by decide)]
        congr 2; omega
      obtain ⟨h', g1, g2, g3, g4, g5, g6⟩ := w_serve1 B F P hd10 h2 c (z (126 + 6 * d)).toNat 0 (3 * d) 4096 (shareTo z d) h (by omega) (by omega) (by omega) (i2 d (Nat.le_refl _)) R RP i1 (by omega)
      rw [if_pos n3, if_neg (by decide)]
      unfold f_W_serve f_W_shareOut_46
      rw [e2, if_pos rfl, e1, B.fld, a5, lI0, g1, Option.bind_some, lI1, iI_add]
      obtain ⟨h'', k1, k2, k3⟩ := ih (d + 1) fu h' (by omega) (by omega) (R.fr (fun i i1 i2 => by
        have hp : p = 184 ∨ p = 188 := P
        have hb := B.1
        have hb2 := B.2
        exact g6 i (by omega) (by omega) (by omega))) (by rw [shareTo, if_neg c]; exact g2)
      exact ⟨h'', k1, k2, fun i i1 i2 i3 => by rw [k3 i i1 i2 i3, g6 i i1 i2 i3]⟩
theorem PS.al {p : Nat} (h : PS p) : alen (p + 1) = 120 ∧ alen (p + 3) = 10 := by rcases h with rfl | rfl <;> exact ⟨rfl, rfl⟩
theorem w_shareOut (B : BS b) (F : WF z) (P : PS p) (h : HP) (R : RepS h b z) : ∃ h' : HP, f_W_shareOut h p b = some h' ∧ RepPw h' p (shareZ z) ∧ ∀ i, i ≠ p + 1 → i ≠ p + 2 → i ≠ p + 3 → h' i = h i := by
  obtain ⟨-, ⟨n1, n2⟩, -⟩ := id F
  have hp : p = 184 ∨ p = 188 := P
  have hb := B.1
  have hb2 := B.2
  unfold f_W_shareOut f_R_fill
  rw [Option.bind_some, Option.bind_some, P.f0, P.f2, P.al.1, P.al.2]
  have hf : ∀ (h : HP) (a : Nat) (f : Nat → Int32) (i : Nat), i ≠ a → hrow h a f i = h i := fun h a f i n => hrow_n h f n
  obtain ⟨h', k1, k2, k3⟩ := w_share1 (b := b) B F P (z 185).toNat 0 4096 (hrow (hrow h (p + 1) (fun j => if j < 120 then 0 else h (p + 1) j)) (p + 3) (fun j => if j < 10 then 0 else hrow h (p + 1) (fun j => if j < 120 then 0 else h (p + 1) j) (p + 3) j)) (by omega) (by omega) (R.fr (fun i i1 i2 => by rw [hf _ _ _ _ (by omega), hf _ _ _ _ (by omega)])) ⟨fun i hi => by
      rw [hf _ _ _ _ (by omega), hrow_s, if_pos hi, lI0]
      rfl, fun e he => by
      rw [hrow_s, if_pos he, lI0]
      rfl, fun e k he hk hlt => by
      exfalso
      have : (shareTo z 0).2.1 e = 0 := rfl
      omega⟩
  refine ⟨h', k1, k2, fun i i1 i2 i3 => ?_⟩
  rw [k3 i i1 i2 i3, hf _ _ _ _ i3, hf _ _ _ _ i1]
end SHARE
