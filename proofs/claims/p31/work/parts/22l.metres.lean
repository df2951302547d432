/-! sums over a wall's metres -/
section METRES
variable {h : HP} {a b p : Nat} {z : Nat → Int}
theorem a_plugsAt1 (S : FS a b p) (R : RepS h b z) (F : WF z) {w : Nat} (hw : (w : Int) < z 184) : ∀ (n d fu : Nat) (acc : Int), (d : Int) + n = z (31 * w) → n < fu → f_A_plugsAt_4 h fu a (iI w) (iI acc) (iI d) = some (iI (acc + sm (fun d => z (31 * w + 1 + d)) n d)) := by
  obtain ⟨⟨w1, w2⟩, ⟨n1, n2⟩, -⟩ := id F
  have hw4 : w < 4 := by omega
  have hL := F.2.2.2.1 w hw4
  intro n
  induction n with
  | zero =>
    intro d fu acc hd hfu
    obtain ⟨fu, rfl⟩ : ∃ k, fu = k + 1 := ⟨fu - 1, by omega⟩
    rw [f_A_plugsAt_4, S.f0, st_len R S.bs F (w := (w : Int)) ⟨by omega, hw⟩, Option.bind_some, show ((w : Int)).toNat = w by omega, tLe (by omega) (by omega) (by omega) (by omega), if_pos (by omega)]
    show some (iI acc) = some (iI (acc + 0))
    rw [Int.add_zero]
  | succ n ih =>
    intro d fu acc hd hfu
    obtain ⟨fu, rfl⟩ : ∃ k, fu = k + 1 := ⟨fu - 1, by omega⟩
    have hd30 : d < 30 := by omega
    have nx : ∀ acc : Int, f_A_plugsAt_4 h fu a (iI w) (iI acc) (iI ((d : Int) + 1)) = some (iI (acc + sm (fun d => z (31 * w + 1 + d)) n (d + 1))) := fun acc => ih (d + 1) fu acc (by omega) (by omega)
    show _ = some (iI (acc + ((z (31 * w + 1 + d)) + sm (fun d => z (31 * w + 1 + d)) n (d + 1))))
    rw [f_A_plugsAt_4, S.f0, st_len R S.bs F (w := (w : Int)) ⟨by omega, hw⟩, Option.bind_some, show ((w : Int)).toNat = w by omega, tLe (by omega) (by omega) (by omega) (by omega), if_neg (by omega)]
    have cM : 0 ≤ (w : Int) ∧ (w : Int) < z 184 ∧ 0 ≤ (d : Int) ∧ (d : Int) < z (31 * (w : Int).toNat) := by
      rw [show (w : Int).toNat = w by omega]
      omega
    rw [s_plugsOf R S.bs F ⟨by omega, by omega⟩ ⟨by omega, by omega⟩, Option.bind_some, if_pos cM, show (w : Int).toNat = w by omega, show (d : Int).toNat = d by omega, iI_add, lI1, iI_add, nx, Int.add_assoc]
theorem a_hadAt1 (S : FS a b p) (R : RepS h b z) (F : WF z) (RP : RepPw h p (shareZ z)) {w : Nat} (hw : (w : Int) < z 184) : ∀ (n d fu : Nat) (acc : Int), (d : Int) + n = z (31 * w) → n < fu → f_A_plugsHadAt_4 h fu a (iI w) (iI acc) (iI d) = some (iI (acc + sm (fun d => (shareZ z).1 (30 * w + d)) n d)) := by
  obtain ⟨⟨w1, w2⟩, ⟨n1, n2⟩, -⟩ := id F
  have hw4 : w < 4 := by omega
  have hL := F.2.2.2.1 w hw4
  intro n
  induction n with
  | zero =>
    intro d fu acc hd hfu
    obtain ⟨fu, rfl⟩ : ∃ k, fu = k + 1 := ⟨fu - 1, by omega⟩
    rw [f_A_plugsHadAt_4, S.f0, st_len R S.bs F (w := (w : Int)) ⟨by omega, hw⟩, Option.bind_some, show ((w : Int)).toNat = w by omega, tLe (by omega) (by omega) (by omega) (by omega), if_pos (by omega)]
    show some (iI acc) = some (iI (acc + 0))
    rw [Int.add_zero]
  | succ n ih =>
    intro d fu acc hd hfu
    obtain ⟨fu, rfl⟩ : ∃ k, fu = k + 1 := ⟨fu - 1, by omega⟩
    have hd30 : d < 30 := by omega
    have nx : ∀ acc : Int, f_A_plugsHadAt_4 h fu a (iI w) (iI acc) (iI ((d : Int) + 1)) = some (iI (acc + sm (fun d => (shareZ z).1 (30 * w + d)) n (d + 1))) := fun acc => ih (d + 1) fu acc (by omega) (by omega)
    show _ = some (iI (acc + (((shareZ z).1 (30 * w + d)) + sm (fun d => (shareZ z).1 (30 * w + d)) n (d + 1))))
    rw [f_A_plugsHadAt_4, S.f0, st_len R S.bs F (w := (w : Int)) ⟨by omega, hw⟩, Option.bind_some, show ((w : Int)).toNat = w by omega, tLe (by omega) (by omega) (by omega) (by omega), if_neg (by omega)]
    rw [S.f1, w_tak S.ps RP hw4 hd30, Option.bind_some, iI_add, lI1, iI_add, nx, Int.add_assoc]
theorem a_freeM1 (S : FS a b p) (R : RepS h b z) (F : WF z) {w : Nat} (hw : (w : Int) < z 184) : ∀ (n d fu : Nat) (acc : Int), (d : Int) + n = z (31 * w) → n < fu → f_A_freeByMetres_4 h fu a (iI w) (iI acc) (iI d) = some (iI (acc + sm (fun d => if atZ z w d = -1 then 1 else 0) n d)) := by
  obtain ⟨⟨w1, w2⟩, ⟨n1, n2⟩, -⟩ := id F
  have hw4 : w < 4 := by omega
  have hL := F.2.2.2.1 w hw4
  intro n
  induction n with
  | zero =>
    intro d fu acc hd hfu
    obtain ⟨fu, rfl⟩ : ∃ k, fu = k + 1 := ⟨fu - 1, by omega⟩
    rw [f_A_freeByMetres_4, S.f0, st_len R S.bs F (w := (w : Int)) ⟨by omega, hw⟩, Option.bind_some, show ((w : Int)).toNat = w by omega, tLe (by omega) (by omega) (by omega) (by omega), if_pos (by omega)]
    show some (iI acc) = some (iI (acc + 0))
    rw [Int.add_zero]
  | succ n ih =>
    intro d fu acc hd hfu
    obtain ⟨fu, rfl⟩ : ∃ k, fu = k + 1 := ⟨fu - 1, by omega⟩
    have hd30 : d < 30 := by omega
    have nx : ∀ acc : Int, f_A_freeByMetres_4 h fu a (iI w) (iI acc) (iI ((d : Int) + 1)) = some (iI (acc + sm (fun d => if atZ z w d = -1 then 1 else 0) n (d + 1))) := fun acc => ih (d + 1) fu acc (by omega) (by omega)
    show _ = some (iI (acc + ((if atZ z w d = -1 then 1 else 0) + sm (fun d => if atZ z w d = -1 then 1 else 0) n (d + 1))))
    rw [f_A_freeByMetres_4, S.f0, st_len R S.bs F (w := (w : Int)) ⟨by omega, hw⟩, Option.bind_some, show ((w : Int)).toNat = w by omega, tLe (by omega) (by omega) (by omega) (by omega), if_neg (by omega)]
    have hr : -1 ≤ atZ z w d ∧ atZ z w d < 10 := by
      rcases atZ_is F w d with ⟨a1, -⟩ | ⟨k, a1, a2, -⟩ <;> omega
    rw [a_who S R F ⟨by omega, by omega⟩ ⟨by omega, by omega⟩, Option.bind_some]
    unfold f_A_freeByMetres_32
    rw [lI0, lI1, iI_neg, iI_add, iI_add, iI_add, nx, nx, tEq (by omega) (by omega) (by omega) (by omega)]
    by_cases c : atZ z w d = -1
    · rw [if_pos c, if_pos c, Int.add_assoc]
    · rw [if_neg c, if_neg c, Int.add_assoc]
def plgZ (z : Nat → Int) (w : Nat) : Int := sm (fun m => z (31 * w + 1 + m)) (z (31 * w)).toNat 0
def freZ (z : Nat → Int) (w : Nat) : Int := sm (fun m => if atZ z w m = -1 then 1 else 0) (z (31 * w)).toNat 0
noncomputable def hadZ (z : Nat → Int) (w : Nat) : Int := sm (fun m => (shareZ z).1 (30 * w + m)) (z (31 * w)).toNat 0
theorem a_plugsAt (S : FS a b p) (R : RepS h b z) (F : WF z) {w : Nat} (hw : (w : Int) < z 184) : f_A_plugsAt h a (iI w) = some (iI (plgZ z w)) := by
  obtain ⟨⟨w1, w2⟩, -⟩ := id F
  have hL := F.2.2.2.1 w (by omega)
  unfold f_A_plugsAt plgZ
  have := a_plugsAt1 S R F hw (z (31 * w)).toNat 0 4096 0 (by omega) (by omega)
  rw [Int.zero_add] at this
  rw [lI0]
  exact this
theorem a_hadAt (S : FS a b p) (R : RepS h b z) (F : WF z) (RP : RepPw h p (shareZ z)) {w : Nat} (hw : (w : Int) < z 184) : f_A_plugsHadAt h a (iI w) = some (iI (hadZ z w)) := by
  obtain ⟨⟨w1, w2⟩, -⟩ := id F
  have hL := F.2.2.2.1 w (by omega)
  unfold f_A_plugsHadAt hadZ
  have := a_hadAt1 S R F RP hw (z (31 * w)).toNat 0 4096 0 (by omega) (by omega)
  rw [Int.zero_add] at this
  rw [lI0]
  exact this
theorem a_freeM (S : FS a b p) (R : RepS h b z) (F : WF z) {w : Nat} (hw : (w : Int) < z 184) : f_A_freeByMetres h a (iI w) = some (iI (freZ z w)) := by
  obtain ⟨⟨w1, w2⟩, -⟩ := id F
  have hL := F.2.2.2.1 w (by omega)
  unfold f_A_freeByMetres freZ
  have := a_freeM1 S R F hw (z (31 * w)).toNat 0 4096 0 (by omega) (by omega)
  rw [Int.zero_add] at this
  rw [lI0]
  exact this
theorem a_allFree1 (S : FS a b p) (R : RepS h b z) (F : WF z) : ∀ (n d fu : Nat) (acc : Int), (d : Int) + n = z 184 → n < fu → f_A_allFreeMetres_4 h fu a (iI acc) (iI d) = some (iI (acc + sm (fun d => freZ z d) n d)) := by
  obtain ⟨⟨w1, w2⟩, ⟨n1, n2⟩, -⟩ := id F
  intro n
  induction n with
  | zero =>
    intro d fu acc hd hfu
    obtain ⟨fu, rfl⟩ : ∃ k, fu = k + 1 := ⟨fu - 1, by omega⟩
    rw [f_A_allFreeMetres_4, S.f0, R.nw, tLe (by omega) (by omega) (by omega) (by omega), if_pos (by omega)]
    show some (iI acc) = some (iI (acc + 0))
    rw [Int.add_zero]
  | succ n ih =>
    intro d fu acc hd hfu
    obtain ⟨fu, rfl⟩ : ∃ k, fu = k + 1 := ⟨fu - 1, by omega⟩
    have h2 : (d : Int) < z 184 := by omega
    have nx : ∀ acc : Int, f_A_allFreeMetres_4 h fu a (iI acc) (iI ((d : Int) + 1)) = some (iI (acc + sm (fun d => freZ z d) n (d + 1))) := fun acc => ih (d + 1) fu acc (by omega) (by omega)
    show _ = some (iI (acc + ((freZ z d) + sm (fun d => freZ z d) n (d + 1))))
    rw [f_A_allFreeMetres_4, S.f0, R.nw, tLe (by omega) (by omega) (by omega) (by omega), if_neg (by omega), a_freeM S R F h2, Option.bind_some, iI_add, lI1, iI_add, nx, Int.add_assoc]
theorem a_allPlugs1 (S : FS a b p) (R : RepS h b z) (F : WF z) : ∀ (n d fu : Nat) (acc : Int), (d : Int) + n = z 184 → n < fu → f_A_allPlugs_4 h fu a (iI acc) (iI d) = some (iI (acc + sm (fun d => plgZ z d) n d)) := by
  obtain ⟨⟨w1, w2⟩, ⟨n1, n2⟩, -⟩ := id F
  intro n
  induction n with
  | zero =>
    intro d fu acc hd hfu
    obtain ⟨fu, rfl⟩ : ∃ k, fu = k + 1 := ⟨fu - 1, by omega⟩
    rw [f_A_allPlugs_4, S.f0, R.nw, tLe (by omega) (by omega) (by omega) (by omega), if_pos (by omega)]
    show some (iI acc) = some (iI (acc + 0))
    rw [Int.add_zero]
  | succ n ih =>
    intro d fu acc hd hfu
    obtain ⟨fu, rfl⟩ : ∃ k, fu = k + 1 := ⟨fu - 1, by omega⟩
    have h2 : (d : Int) < z 184 := by omega
    have nx : ∀ acc : Int, f_A_allPlugs_4 h fu a (iI acc) (iI ((d : Int) + 1)) = some (iI (acc + sm (fun d => plgZ z d) n (d + 1))) := fun acc => ih (d + 1) fu acc (by omega) (by omega)
    show _ = some (iI (acc + ((plgZ z d) + sm (fun d => plgZ z d) n (d + 1))))
    rw [f_A_allPlugs_4, S.f0, R.nw, tLe (by omega) (by omega) (by omega) (by omega), if_neg (by omega), a_plugsAt S R F h2, Option.bind_some, iI_add, lI1, iI_add, nx, Int.add_assoc]
/-! the nearest exists; nothing is taken beyond a wall's end -/
theorem near_ex {T : Nat → Int} (F : WF z) (HT : TB T) {d : Nat} (hd : d < 10) (h2 : (d : Int) < z 185) (hst : z (127 + 6 * d) ≠ -1) : ∃ r, IsNear z T d r := by
  have R : RepS (fun i j => if i = 185 then iI (T j) else if i = 0 then iI (z (175 + j)) else if i = 1 then iI (z (31 * j)) else if i = 2 then iI (z (31 * (j / 30) + 1 + j % 30)) else if i = 9 then iI (z (190 + j)) else iI (z (124 + 6 * j + (i - 3)))) 0 z := by
    refine ⟨⟨rfl, rfl, rfl, rfl⟩, fun w hw => rfl, fun w m hw hm => ?_, fun d k hd h2 hk => ?_, fun j hj => rfl⟩
    · show iI (z (31 * ((30 * w + m) / 30) + 1 + (30 * w + m) % 30)) = _
      rw [show 31 * ((30 * w + m) / 30) + 1 + (30 * w + m) % 30 = 31 * w + 1 + m by omega]
    · dsimp only
      rw [if_neg (by omega), if_neg (by omega), if_neg (by omega), if_neg (by omega), if_neg (by omega), show 0 + 3 + k - 3 = k by omega]
  obtain ⟨r, -, hr⟩ := w_nearest (p := 184) R ⟨by decide, by decide⟩ F (Or.inl rfl) (fun i hi => rfl) HT hd h2 hst
  exact ⟨r, hr⟩
def Z0 (z : Nat → Int) (s : Pw) : Prop := ∀ w m : Nat, w < 4 → m < 30 → z (31 * w) ≤ (m : Int) → s.1 (30 * w + m) = 0
theorem serve_0 (F : WF z) {d : Nat} (hd : d < 10) (h2 : (d : Int) < z 185) (hst : z (127 + 6 * d) ≠ -1) : ∀ (n : Nat) (k : Int) (s : Pw), TBk k s → k + n ≤ 100 → Z0 z s → Z0 z (serveZ z d n s) := by
  have hW := F.wall hd h2
  intro n
  induction n with
  | zero => intro k s _ _ h; exact h
  | succ n ih =>
    intro k s HT hk h
    rw [serveZ]
    by_cases c : nearZ z s.1 d = -1
    · rw [if_pos c]; exact h
    · rw [if_neg c]
      refine ih (k + 1) _ HT.plug (by omega) (fun w m hw hm hl => ?_)
      obtain ⟨r, hr⟩ := near_ex F (HT.tb (by omega)) hd h2 hst
      have hn := near_ok F hd h2 hst (nearZ_is hr)
      show uI s.1 _ _ (30 * w + m) = 0
      have ne : 30 * w + m ≠ 30 * (z (127 + 6 * d)).toNat + (nearZ z s.1 d).toNat := by
        intro e
        have e1 : w = (z (127 + 6 * d)).toNat := by omega
        rw [← e1] at hn
        omega
      rw [uI_n _ _ ne]
      exact h w m hw hm hl
theorem share_0 (F : WF z) : ∀ d : Nat, (d : Int) ≤ z 185 → Z0 z (shareTo z d) := by
  obtain ⟨-, ⟨n1, n2⟩, -⟩ := id F
  intro d
  induction d with
  | zero => intro _ w m _ _ _; rfl
  | succ d ih =>
    intro hd
    rw [shareTo]
    by_cases c : z (127 + 6 * d) = -1
    · rw [if_pos c]; exact ih (by omega)
    · rw [if_neg c]
      have hD := F.2.2.2.2.2.1 d (by omega)
      exact serve_0 F (by omega) (by omega) c _ (3 * d) _ (share_inv F d (by omega)).1 (by omega) (ih (by omega))
theorem sm_app (G : Nat → Int) : ∀ n m i : Nat, sm G (n + m) i = sm G n i + sm G m (i + n) := by
  intro n
  induction n with
  | zero => intro m i; rw [Nat.zero_add, Nat.add_zero]; show _ = 0 + _; rw [Int.zero_add]
  | succ n ih =>
    intro m i
    rw [show n + 1 + m = (n + m) + 1 by omega]
    show G i + sm G (n + m) (i + 1) = G i + sm G n (i + 1) + _
    rw [ih, show i + 1 + n = i + (n + 1) by omega, Int.add_assoc]
theorem sm_0 (G : Nat → Int) : ∀ n i : Nat, (∀ k, i ≤ k → k < i + n → G k = 0) → sm G n i = 0 := by
  intro n
  induction n with
  | zero => intro i _; rfl
  | succ n ih =>
    intro i h
    show G i + sm G n (i + 1) = 0
    rw [h i (by omega) (by omega), ih (i + 1) (fun k h1 h2 => h k (by omega) (by omega))]
    rfl
/-- all thirty metres, as the reference sums them -/
theorem had_30 (F : WF z) {w : Nat} (hw : w < 4) : sm (fun m => (shareZ z).1 (30 * w + m)) 30 0 = hadZ z w := by
  obtain ⟨-, ⟨n1, n2⟩, -⟩ := id F
  have hL := F.2.2.2.1 w hw
  have h0 : Z0 z (shareZ z) := share_0 F (z 185).toNat (by omega)
  unfold hadZ
  have e : (30 : Nat) = (z (31 * w)).toNat + (30 - (z (31 * w)).toNat) := by omega
  rw [show sm (fun m => (shareZ z).1 (30 * w + m)) 30 0 = sm (fun m => (shareZ z).1 (30 * w + m)) ((z (31 * w)).toNat + (30 - (z (31 * w)).toNat)) 0 by rw [← e], sm_app, sm_0 _ (30 - (z (31 * w)).toNat) _ (fun k h1 h2 => h0 w k hw (by omega) (by omega)), Int.add_zero]
end METRES
