/-! the text's numbers, on both sides -/
def chT (t : Nat → Int) (n pos : Nat) : Int := if pos < n then t pos else -1
def dgS (t : Nat → Int) (n : Nat) (lo hi : Int) (s : Bool × Nat) : Int × Bool × Nat := if s.1 = true ∧ lo ≤ chT t n s.2 - 48 ∧ chT t n s.2 - 48 ≤ hi then (chT t n s.2 - 48, true, s.2 + 1) else (lo, false, s.2)
def tw2 (t : Nat → Int) (n : Nat) (lo hi : Int) (r : Int × Bool × Nat) : Int × Bool × Nat := dgS t n (if r.1 = lo / 10 then lo % 10 else 0) (if r.1 = hi / 10 then hi % 10 else 9) r.2
def twS (t : Nat → Int) (n : Nat) (lo hi : Int) (s : Bool × Nat) : Int × Bool × Nat := (10 * (dgS t n (lo / 10) (hi / 10) s).1 + (tw2 t n lo hi (dgS t n (lo / 10) (hi / 10) s)).1, (tw2 t n lo hi (dgS t n (lo / 10) (hi / 10) s)).2)
def nbS (t : Nat → Int) (n : Nat) (d : Nat) (lo hi : Int) (s : Bool × Nat) : Int × Bool × Nat := if d = 0 then (0, s) else if d = 1 then dgS t n lo hi s else twS t n lo hi s
def TxC (h : HP) (t : Nat → Int) (n : Nat) : Prop := n ≤ 120 ∧ h 197 2 = iI n ∧ ∀ i : Nat, i < n → (0 ≤ t i ∧ t i ≤ 255) ∧ h 198 i = iI (t i)
def TxM (h : HP) (t : Nat → Int) (n : Nat) : Prop := n ≤ 120 ∧ h 200 12 = iI n ∧ ∀ i : Nat, i < n → (0 ≤ t i ∧ t i ≤ 255) ∧ h 210 i = iI (t i)
def boI (b : Bool) : Int := if b = true then 1 else 0
section NUMS
variable {h g : HP} {t : Nat → Int} {n : Nat}
theorem TxC.fr {h' : HP} (T : TxC h t n) (e1 : h' 197 2 = h 197 2) (e2 : h' 198 = h 198) : TxC h' t n := ⟨T.1, by rw [e1]; exact T.2.1, fun i hi => by rw [e2]; exact T.2.2 i hi⟩
theorem TxM.fr {h' : HP} (T : TxM h t n) (e1 : h' 200 12 = h 200 12) (e2 : h' 210 = h 210) : TxM h' t n := ⟨T.1, by rw [e1]; exact T.2.1, fun i hi => by rw [e2]; exact T.2.2 i hi⟩
theorem ch_b (T : ∀ i : Nat, i < n → 0 ≤ t i ∧ t i ≤ 255) (pos : Nat) : -1 ≤ chT t n pos ∧ chT t n pos ≤ 255 := by
  unfold chT
  split
  · rename_i c
    have := T pos c
    omega
  · omega
theorem TxC.b (T : TxC h t n) : ∀ i : Nat, i < n → 0 ≤ t i ∧ t i ≤ 255 := fun i hi => (T.2.2 i hi).1
theorem TxM.b (T : TxM h t n) : ∀ i : Nat, i < n → 0 ≤ t i ∧ t i ≤ 255 := fun i hi => (T.2.2 i hi).1
theorem dgS_f (lo hi : Int) (p : Nat) : dgS t n lo hi (false, p) = (lo, false, p) := if_neg (fun q => absurd (show false = true from q.1) (by decide))
theorem dgS_b (T : ∀ i : Nat, i < n → 0 ≤ t i ∧ t i ≤ 255) {lo hi : Int} (h0 : 0 ≤ lo) (h1 : lo ≤ hi) (h2 : hi ≤ 9) (s : Bool × Nat) : lo ≤ (dgS t n lo hi s).1 ∧ (dgS t n lo hi s).1 ≤ hi ∧ s.2 ≤ (dgS t n lo hi s).2.2 ∧ (dgS t n lo hi s).2.2 ≤ s.2 + 1 ∧ ((dgS t n lo hi s).2.1 = true → s.1 = true ∧ (dgS t n lo hi s).2.2 = s.2 + 1 ∧ s.2 < n) := by
  unfold dgS
  split
  · rename_i c
    refine ⟨c.2.1, c.2.2, Nat.le_succ _, Nat.le_refl _, fun _ => ⟨c.1, rfl, ?_⟩⟩
    have c2 := c.2.1
    unfold chT at c2
    split at c2
    · rename_i q; exact q
    · omega
  · exact ⟨Int.le_refl _, h1, Nat.le_refl _, Nat.le_succ _, fun q => absurd (show false = true from q) (by decide)⟩
/-- the class's digit -/
def dchZ (t : Nat → Int) (n pos : Nat) : Int := if 0 ≤ chT t n pos - 48 ∧ chT t n pos - 48 ≤ 9 then chT t n pos - 48 else -1
theorem c_digit (T : TxC h t n) {pos : Nat} (hp : pos ≤ 1000) (h3 : h 197 3 = iI pos) : f_T_readDigit h 197 = some (iI (dchZ t n pos)) := by
  obtain ⟨t1, t2, t4⟩ := id T
  unfold f_T_readDigit dchZ chT
  rw [h3, t2, lI0, tLt (by omega) (by omega) (by omega) (by omega), if_neg (by omega), tLe (by omega) (by omega) (by omega) (by omega)]
  by_cases c : pos < n
  · have hb := (t4 pos c).1
    have e1 : (iI (pos : Int)).toNatClampNeg = pos := by rw [iI_cl (by omega) (by omega)]; omega
    rw [if_neg (by omega), lI120, tLt (by omega) (by omega) (by omega) (by omega), if_pos (by omega), iI_ib (by omega) (by omega) (by omega), if_pos rfl, e1, fT0, (t4 pos c).2, lI48, tLt (by omega) (by omega) (by omega) (by omega), lI57, tLt (by omega) (by omega) (by omega) (by omega), iI_sub, if_pos c, m1I]
    by_cases c1 : t pos < 48
    · rw [if_pos c1, if_neg (by omega)]
    · rw [if_neg c1]
      by_cases c2 : 57 < t pos
      · rw [if_pos c2, if_neg (by omega)]
      · rw [if_neg c2, if_pos (by omega)]
  · rw [if_pos (by omega), if_neg c, if_neg (by omega), m1I]
theorem c_nstep (k6 : Nat → Int32 → Int32 → Int32 → Int32 → HP → Option (Int32 × HP)) {pos : Nat} (h3 : h 197 3 = iI pos) {lo hi a e x sp : Int} (b1 : 0 ≤ lo ∧ lo ≤ 1000) (b2 : 0 ≤ hi ∧ hi ≤ 1000) (b3 : 0 ≤ a ∧ a ≤ 99) (b4 : 0 ≤ e ∧ e ≤ 9) (b5 : -1 ≤ x ∧ x ≤ 9) (b6 : sp = 1 ∨ sp = 10) : f_T_readNumber_29 k6 197 (iI lo) (iI hi) (iI a) (iI e) (iI x) (iI sp) h = if x = -1 ∨ (a * 10 + x) * sp + sp - 1 < lo ∨ hi < (a * 10 + x) * sp then some (iI (-1), h) else k6 197 (iI lo) (iI hi) (iI (a * 10 + x)) (iI (e - 1)) (hset h 197 3 (iI ((pos : Int) + 1))) := by
  have hm : -10 ≤ (a * 10 + x) * sp ∧ (a * 10 + x) * sp ≤ 10000 := by
    rcases b6 with rfl | rfl <;> omega
  unfold f_T_readNumber_29
  rw [m1I, tEq (by omega) (by omega) (by omega) (by omega), lI10, iI_mul, iI_add, iI_mul, iI_add, lI1, iI_sub, tLt (by omega) (by omega) (by omega) (by omega), tLe (by omega) (by omega) (by omega) (by omega), h3, iI_add, Option.bind_some, show Int32.ofInt (-1) = iI (-1) from rfl, iI_add, show e + -1 = e - 1 by omega]
  by_cases c1 : x = -1
  · rw [if_pos c1, if_pos (Or.inl c1)]
  · rw [if_neg c1]
    by_cases c2 : (a * 10 + x) * sp + sp - 1 < lo
    · rw [if_pos c2, if_pos (Or.inr (Or.inl c2))]
    · rw [if_neg c2]
      by_cases c3 : (a * 10 + x) * sp ≤ hi
      · rw [if_pos c3, if_neg (by omega)]
      · rw [if_neg c3, if_pos (Or.inr (Or.inr (by omega)))]
theorem dch_b (T : ∀ i : Nat, i < n → 0 ≤ t i ∧ t i ≤ 255) (pos : Nat) : -1 ≤ dchZ t n pos ∧ dchZ t n pos ≤ 9 := by
  unfold dchZ
  split <;> omega
theorem c_num1 (T : TxC h t n) {pos : Nat} (hp : pos ≤ 500) (h3 : h 197 3 = iI pos) {lo hi : Int} (h0 : 0 ≤ lo) (h1 : lo ≤ hi) (h2 : hi ≤ 9) (fu : Nat) : ∃ h', f_T_readNumber_6 (fu + 2) 197 (iI lo) (iI hi) (iI 0) (iI 1) h = some (iI (if (dgS t n lo hi (true, pos)).2.1 = true then (dgS t n lo hi (true, pos)).1 else -1), h') ∧ h' 197 3 = iI ((dgS t n lo hi (true, pos)).2.2 : Nat) ∧ (∀ i, i ≠ 197 → h' i = h i) ∧ (∀ k, k ≠ 3 → h' 197 k = h 197 k) := by
  have hb := dch_b T.b pos
  have hc := ch_b T.b pos
  rw [f_T_readNumber_6, lI0, tLe (by omega) (by omega) (by omega) (by omega), if_neg (by omega), c_digit T (by omega) h3, Option.bind_some, lI2, tEq (by omega) (by omega) (by omega) (by omega), if_neg (by omega), show (1 : Int32) = iI 1 from lI1, c_nstep _ h3 ⟨h0, by omega⟩ ⟨by omega, by omega⟩ ⟨by omega, by omega⟩ ⟨by omega, by omega⟩ hb (Or.inl rfl)]
  by_cases c : lo ≤ chT t n pos - 48 ∧ chT t n pos - 48 ≤ hi
  · have ed : dchZ t n pos = chT t n pos - 48 := if_pos (by omega)
    have e : dgS t n lo hi (true, pos) = (chT t n pos - 48, true, pos + 1) := if_pos ⟨rfl, c⟩
    rw [e, ed, if_neg (by omega), f_T_readNumber_6, lI0, tLe (by omega) (by omega) (by omega) (by omega), if_pos (by omega)]
    refine ⟨hset h 197 3 (iI ((pos : Int) + 1)), ?_, ?_, fun i hi => hset_n _ _ _ hi, fun k hk => by rw [hset_s, upd_n _ _ hk]⟩
    · show some (iI (0 * 10 + (chT t n pos - 48)), _) = some (iI (chT t n pos - 48), _)
      rw [show (0 : Int) * 10 + (chT t n pos - 48) = chT t n pos - 48 by omega]
    · rw [hset_s, upd_s]; rfl
  · have e : dgS t n lo hi (true, pos) = (lo, false, pos) := if_neg (fun q => c q.2)
    have hx : dchZ t n pos = -1 ∨ (0 * 10 + dchZ t n pos) * 1 + 1 - 1 < lo ∨ hi < (0 * 10 + dchZ t n pos) * 1 := by
      unfold dchZ
      split <;> omega
    rw [e, if_pos hx]
    exact ⟨h, rfl, h3, fun _ _ => rfl, fun _ _ => rfl⟩
theorem c_num2 (T : TxC h t n) {pos : Nat} (hp : pos ≤ 500) (h3 : h 197 3 = iI pos) {lo hi : Int} (h0 : 0 ≤ lo) (h1 : lo ≤ hi) (h2 : hi ≤ 99) (fu : Nat) : ∃ h', f_T_readNumber_6 (fu + 3) 197 (iI lo) (iI hi) (iI 0) (iI 2) h = some (iI (if (twS t n lo hi (true, pos)).2.1 = true then (twS t n lo hi (true, pos)).1 else -1), h') ∧ h' 197 3 = iI ((twS t n lo hi (true, pos)).2.2 : Nat) ∧ (∀ i, i ≠ 197 → h' i = h i) ∧ (∀ k, k ≠ 3 → h' 197 k = h 197 k) := by
  have hb := dch_b T.b pos
  have hc := ch_b T.b pos
  rw [f_T_readNumber_6, lI0, tLe (by omega) (by omega) (by omega) (by omega), if_neg (by omega), c_digit T (by omega) h3, Option.bind_some, show (2 : Int32) = iI 2 from lI2, if_pos rfl, lI10, c_nstep _ h3 ⟨h0, by omega⟩ ⟨by omega, by omega⟩ ⟨by omega, by omega⟩ ⟨by omega, by omega⟩ hb (Or.inr rfl)]
  by_cases c : lo / 10 ≤ chT t n pos - 48 ∧ chT t n pos - 48 ≤ hi / 10
  · have ed : dchZ t n pos = chT t n pos - 48 := if_pos (by omega)
    have e : dgS t n (lo / 10) (hi / 10) (true, pos) = (chT t n pos - 48, true, pos + 1) := if_pos ⟨rfl, c⟩
    have hc2 := ch_b T.b (pos + 1)
    have hb2 := dch_b T.b (pos + 1)
    have h3' : (hset h 197 3 (iI ((pos : Int) + 1))) 197 3 = iI ((pos + 1 : Nat) : Int) := by rw [hset_s, upd_s]; rfl
    have T' : TxC (hset h 197 3 (iI ((pos : Int) + 1))) t n := T.fr (by rw [hset_s, upd_n _ _ (by decide)]) (hset_n _ _ _ (by decide))
    unfold twS tw2
    rw [e, ed, if_neg (by omega), f_T_readNumber_6, lI0, tLe (by omega) (by omega) (by omega) (by omega), if_neg (by omega), c_digit T' (by omega) h3', Option.bind_some, lI2, tEq (by omega) (by omega) (by omega) (by omega), if_neg (by omega), show (1 : Int32) = iI 1 from lI1, c_nstep _ h3' ⟨h0, by omega⟩ ⟨by omega, by omega⟩ ⟨by omega, by omega⟩ ⟨by omega, by omega⟩ hb2 (Or.inl rfl)]
    dsimp only
    generalize hA : chT t n pos - 48 = A at *
    by_cases c2 : (if A = lo / 10 then lo % 10 else 0) ≤ chT t n (pos + 1) - 48 ∧ chT t n (pos + 1) - 48 ≤ (if A = hi / 10 then hi % 10 else 9)
    · have e2 : dgS t n (if A = lo / 10 then lo % 10 else 0) (if A = hi / 10 then hi % 10 else 9) (true, pos + 1) = (chT t n (pos + 1) - 48, true, pos + 1 + 1) := if_pos ⟨rfl, c2⟩
      have hr : 0 ≤ chT t n (pos + 1) - 48 ∧ chT t n (pos + 1) - 48 ≤ 9 ∧ lo ≤ 10 * A + (chT t n (pos + 1) - 48) ∧ 10 * A + (chT t n (pos + 1) - 48) ≤ hi := by
        obtain ⟨q1, q2⟩ := c2
        split at q1 <;> split at q2 <;> omega
      have ed2 : dchZ t n (pos + 1) = chT t n (pos + 1) - 48 := if_pos ⟨hr.1, hr.2.1⟩
      rw [e2, ed2, if_neg (by omega), f_T_readNumber_6, lI0, tLe (by omega) (by omega) (by omega) (by omega), if_pos (by omega)]
      refine ⟨hset (hset h 197 3 (iI ((pos : Int) + 1))) 197 3 (iI (((pos + 1 : Nat) : Int) + 1)), ?_, ?_, fun i hi => by rw [hset_n _ _ _ hi, hset_n _ _ _ hi], fun k hk => by rw [hset_s, upd_n _ _ hk, hset_s, upd_n _ _ hk]⟩
      · show some (iI ((0 * 10 + A) * 10 + (chT t n (pos + 1) - 48)), _) = some (iI (10 * A + (chT t n (pos + 1) - 48)), _)
        rw [show (0 * 10 + A) * 10 + (chT t n (pos + 1) - 48) = 10 * A + (chT t n (pos + 1) - 48) by omega]
      · rw [hset_s, upd_s]; rfl
    · have e2 : dgS t n (if A = lo / 10 then lo % 10 else 0) (if A = hi / 10 then hi % 10 else 9) (true, pos + 1) = ((if A = lo / 10 then lo % 10 else 0), false, pos + 1) := if_neg (fun q => c2 q.2)
      have hx : dchZ t n (pos + 1) = -1 ∨ ((0 * 10 + A) * 10 + dchZ t n (pos + 1)) * 1 + 1 - 1 < lo ∨ hi < ((0 * 10 + A) * 10 + dchZ t n (pos + 1)) * 1 := by
        unfold dchZ
        split
        · rename_i q
          by_cases k1 : A = lo / 10
          · rw [if_pos k1] at c2
            by_cases k2 : A = hi / 10
            · rw [if_pos k2] at c2; omega
            · rw [if_neg k2] at c2; omega
          · rw [if_neg k1] at c2
            by_cases k2 : A = hi / 10
            · rw [if_pos k2] at c2; omega
            · rw [if_neg k2] at c2; omega
        · omega
      rw [e2, if_pos hx]
      exact ⟨_, rfl, h3', fun i hi => hset_n _ _ _ hi, fun k hk => by rw [hset_s, upd_n _ _ hk]⟩
  · have e : dgS t n (lo / 10) (hi / 10) (true, pos) = (lo / 10, false, pos) := if_neg (fun q => c q.2)
    have hx : dchZ t n pos = -1 ∨ (0 * 10 + dchZ t n pos) * 10 + 10 - 1 < lo ∨ hi < (0 * 10 + dchZ t n pos) * 10 := by
      unfold dchZ
      split <;> omega
    unfold twS tw2
    rw [e, if_pos hx]
    dsimp only
    rw [dgS_f]
    exact ⟨h, rfl, h3, fun _ _ => rfl, fun _ _ => rfl⟩
/-- what a number's rule may be -/
def okR (d : Nat) (lo hi : Int) : Prop := (d = 0 ∧ lo = 0 ∧ hi = 0) ∨ (d = 1 ∧ 0 ≤ lo ∧ lo ≤ hi ∧ hi ≤ 9) ∨ (d = 2 ∧ 0 ≤ lo ∧ lo ≤ hi ∧ hi ≤ 99)
theorem c_num (T : TxC h t n) {pos : Nat} (hp : pos ≤ 500) (h3 : h 197 3 = iI pos) {d : Nat} {lo hi : Int} (hr : okR d lo hi) : ∃ h', f_T_readNumber h 197 (iI d) (iI lo) (iI hi) = some (iI (if (nbS t n d lo hi (true, pos)).2.1 = true then (nbS t n d lo hi (true, pos)).1 else -1), h') ∧ h' 197 3 = iI ((nbS t n d lo hi (true, pos)).2.2 : Nat) ∧ (∀ i, i ≠ 197 → h' i = h i) ∧ (∀ k, k ≠ 3 → h' 197 k = h 197 k) := by
  unfold f_T_readNumber
  rcases hr with ⟨rfl, rfl, rfl⟩ | ⟨rfl, r1, r2, r3⟩ | ⟨rfl, r1, r2, r3⟩
  · refine ⟨h, ?_, h3, fun _ _ => rfl, fun _ _ => rfl⟩
    rw [f_T_readNumber_6, lI0]
    rw [if_pos (by decide)]
    rfl
  · rw [lI0]
    exact c_num1 T hp h3 r1 r2 r3 4094
  · rw [lI0]
    exact c_num2 T hp h3 r1 r2 r3 4093
theorem nbS_f (d : Nat) (lo hi : Int) (p : Nat) : (nbS t n d lo hi (false, p)).2 = (false, p) := by
  unfold nbS
  split
  · rfl
  · split
    · rw [dgS_f]
    · unfold twS tw2
      rw [dgS_f]
      dsimp only
      rw [dgS_f]
theorem nbS_b (T : ∀ i : Nat, i < n → 0 ≤ t i ∧ t i ≤ 255) {d : Nat} {lo hi : Int} (hr : okR d lo hi) (s : Bool × Nat) : 0 ≤ (nbS t n d lo hi s).1 ∧ (nbS t n d lo hi s).1 ≤ 99 ∧ s.2 ≤ (nbS t n d lo hi s).2.2 ∧ (nbS t n d lo hi s).2.2 ≤ s.2 + 2 ∧ ((nbS t n d lo hi s).2.1 = true → lo ≤ (nbS t n d lo hi s).1 ∧ (nbS t n d lo hi s).1 ≤ hi) := by
  unfold nbS
  rcases hr with ⟨rfl, rfl, rfl⟩ | ⟨rfl, r1, r2, r3⟩ | ⟨rfl, r1, r2, r3⟩
  · rw [if_pos rfl]
    exact ⟨Int.le_refl _, by show (0 : Int) ≤ 99; omega, Nat.le_refl _, Nat.le_add_right _ _, fun _ => ⟨Int.le_refl _, Int.le_refl _⟩⟩
  · rw [if_neg (by decide), if_pos rfl]
    have := dgS_b T r1 r2 r3 s
    exact ⟨by omega, by omega, this.2.2.1, by omega, fun _ => ⟨this.1, this.2.1⟩⟩
  · rw [if_neg (by decide), if_neg (by decide)]
    have b1 := dgS_b T (lo := lo / 10) (hi := hi / 10) (by omega) (by omega) (by omega) s
    unfold twS tw2
    generalize dgS t n (lo / 10) (hi / 10) s = r at *
    have b2 := dgS_b T (lo := if r.1 = lo / 10 then lo % 10 else 0) (hi := if r.1 = hi / 10 then hi % 10 else 9) (by split <;> omega) (by split <;> split <;> omega) (by split <;> omega) r.2
    generalize dgS t n (if r.1 = lo / 10 then lo % 10 else 0) (if r.1 = hi / 10 then hi % 10 else 9) r.2 = q at *
    dsimp only
    obtain ⟨x1, x2, x3, x4, x5⟩ := b2
    refine ⟨?_, ?_, by omega, by omega, fun _ => ?_⟩
    · split at x1 <;> omega
    · split at x2 <;> omega
    · split at x1 <;> split at x2 <;> omega
end NUMS
