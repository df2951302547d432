/-! the text's commands: dispatch, on both sides -/
section DISP
variable {h g : HP} {t z : Nat → Int} {n : Nat} {B : Int}
noncomputable def cmX (t : Nat → Int) (n pos : Nat) (z : Nat → Int) : Rw := exR (rowL (chT t n pos)) (qA t n (rowL (chT t n pos)) (pos + 1)).1 (qB t n (rowL (chT t n pos)) (pos + 1)).1 (qC t n (rowL (chT t n pos)) (pos + 1)).1 z
theorem qs_b (T : ∀ i : Nat, i < n → 0 ≤ t i ∧ t i ≤ 255) {r : Nat} (hr : r < 8) (pos : Nat) : (0 ≤ (qA t n r pos).1 ∧ (qA t n r pos).1 ≤ 99) ∧ (0 ≤ (qB t n r pos).1 ∧ (qB t n r pos).1 ≤ 99) ∧ (0 ≤ (qC t n r pos).1 ∧ (qC t n r pos).1 ≤ 99) ∧ pos ≤ (qC t n r pos).2.2 := by
  have a := nb1_b (t := t) (n := n) T (r := r) (i := 0) hr (by decide) (true, pos)
  have b := nb1_b (t := t) (n := n) T (r := r) (i := 1) hr (by decide) (qA t n r pos).2
  have c := nb1_b (t := t) (n := n) T (r := r) (i := 2) hr (by decide) (qB t n r pos).2
  rw [show nb1 t n r 0 (true, pos) = qA t n r pos from rfl] at a
  rw [show nb1 t n r 1 (qA t n r pos).2 = qB t n r pos from rfl] at b
  rw [show nb1 t n r 2 (qB t n r pos).2 = qC t n r pos from rfl] at c
  dsimp only at a
  exact ⟨⟨a.1, a.2.1⟩, ⟨b.1, b.2.1⟩, ⟨c.1, c.2.1⟩, by omega⟩
theorem cmS_b (T : ∀ i : Nat, i < n → 0 ≤ t i ∧ t i ≤ 255) (pos : Nat) (c : (cmS t n pos).1 = true) : rowL (chT t n pos) < 8 ∧ pos + 1 ≤ (cmS t n pos).2 := by
  unfold cmS at c ⊢
  by_cases q : rowL (chT t n pos) < 8
  · rw [if_pos q]
    exact ⟨q, (qs_b T q (pos + 1)).2.2.2⟩
  · rw [if_neg q] at c
    exact absurd (show false = true from c) (by decide)
theorem cmX_ok (K : OKz B z) (pos : Nat) : OKz (B + 42000) (cmX t n pos z).2 := exR_ok K _ _ _ _
/-- the class's doing of a command -/
theorem c_obey (RA : RepA h 182 0 184 z) (K : OKz B z) (hB : B < 2147483648) {r : Nat} (hr : r < 8) {L a b c : Int} (hL : rowL L = r) (h1 : -1 ≤ L ∧ L ≤ 255) (ha : 0 ≤ a ∧ a ≤ 99) (hb : 0 ≤ b ∧ b ≤ 99) (hc : 0 ≤ c ∧ c ≤ 99) (e4 : h 197 4 = iI L) (e0 : h 199 0 = iI a) (e1 : h 199 1 = iI b) (e2 : h 199 2 = iI c) : ∃ h', f_C_obeyCommand h 182 197 = some (if (exR r a b c z).1 = true then 1 else 0, h') ∧ RepA h' 182 0 184 (exR r a b c z).2 ∧ (∀ i, ¬ own 0 184 i → h' i = h i) ∧ h' 0 13 = h 0 13 := by
  have nu : ∀ (k : Nat) (v : Int32), k < 3 → v = iI (k : Int) → f_T_number h 197 v = some (h 199 k) := fun k v hk ev => by
    have ek : (iI (k : Int)).toNatClampNeg = k := by rw [iI_cl (by omega) (by omega)]; omega
    have rr := in32 h (v := (k : Int)) ⟨by omega, by omega⟩ ⟨by decide, by decide⟩ ⟨by decide, by decide⟩ lI0 lI2
    rw [if_pos (by omega)] at rr
    unfold f_T_number
    rw [ev, rr, Option.bind_some, if_neg (by decide), iI_ib (by omega) (by omega) (by omega), if_pos rfl, fT1, ek]
  have hLv : L = 119 ∧ r = 0 ∨ L = 111 ∧ r = 1 ∨ L = 100 ∧ r = 2 ∨ L = 112 ∧ r = 3 ∨ L = 108 ∧ r = 4 ∨ L = 115 ∧ r = 5 ∨ L = 110 ∧ r = 6 ∨ L = 101 ∧ r = 7 := by
    unfold rowL at hL
    repeat' split at hL
    all_goals omega
  unfold f_C_obeyCommand
  rw [nu 0 0 (by decide) (by decide), nu 1 1 (by decide) (by decide), nu 2 2 (by decide) (by decide), e0, e1, e2, Option.bind_some, Option.bind_some, Option.bind_some, f_T_letter, e4, Option.bind_some]
  rcases hLv with ⟨rfl, rfl⟩ | ⟨rfl, rfl⟩ | ⟨rfl, rfl⟩ | ⟨rfl, rfl⟩ | ⟨rfl, rfl⟩ | ⟨rfl, rfl⟩ | ⟨rfl, rfl⟩ | ⟨rfl, rfl⟩
  · rw [if_neg (by decide), if_neg (by decide), if_neg (by decide), if_neg (by decide), if_neg (by decide), if_neg (by decide), if_neg (by decide), if_neg (by decide), if_neg (by decide), if_neg (by decide), if_neg (by decide), if_neg (by decide), if_neg (by decide), if_neg (by decide), if_neg (by decide), if_neg (by decide), if_neg (by decide), if_neg (by decide), if_neg (by decide), if_pos (by decide)]
    exact (c_wall RA ⟨by omega, by omega⟩).t1
  · rw [if_neg (by decide), if_neg (by decide), if_neg (by decide), if_neg (by decide), if_neg (by decide), if_neg (by decide), if_neg (by decide), if_neg (by decide), if_neg (by decide), if_neg (by decide), if_neg (by decide), if_pos (by decide)]
    exact (c_outlet RA ⟨by omega, by omega⟩ ⟨by omega, by omega⟩ ⟨by omega, by omega⟩).t1
  · rw [if_pos (by decide)]
    exact (c_dealer RA K.2.1 ⟨by omega, by omega⟩ ⟨by omega, by omega⟩ ⟨by omega, by omega⟩).t1
  · rw [if_neg (by decide), if_neg (by decide), if_neg (by decide), if_neg (by decide), if_neg (by decide), if_neg (by decide), if_neg (by decide), if_neg (by decide), if_neg (by decide), if_neg (by decide), if_neg (by decide), if_neg (by decide), if_pos (by decide)]
    exact (c_place RA 0 ⟨by omega, by omega⟩ ⟨by omega, by omega⟩ ⟨by omega, by omega⟩).t0
  · rw [if_neg (by decide), if_neg (by decide), if_neg (by decide), if_neg (by decide), if_neg (by decide), if_neg (by decide), if_neg (by decide), if_neg (by decide), if_pos (by decide)]
    exact (c_leave RA K.2.1 hB ⟨by omega, by omega⟩).t1
  · rw [if_neg (by decide), if_neg (by decide), if_neg (by decide), if_neg (by decide), if_neg (by decide), if_neg (by decide), if_neg (by decide), if_neg (by decide), if_neg (by decide), if_neg (by decide), if_neg (by decide), if_neg (by decide), if_neg (by decide), if_neg (by decide), if_neg (by decide), if_pos (by decide)]
    exact (c_swap RA 0 ⟨by omega, by omega⟩ ⟨by omega, by omega⟩).t0
  · rw [if_neg (by decide), if_neg (by decide), if_neg (by decide), if_neg (by decide), if_neg (by decide), if_neg (by decide), if_neg (by decide), if_neg (by decide), if_neg (by decide), if_neg (by decide), if_pos (by decide)]
    exact (c_days RA ⟨by omega, by omega⟩).t1
  · rw [if_neg (by decide), if_pos (by decide)]
    exact (c_set RA ⟨by omega, by omega⟩ ⟨by omega, by omega⟩).t1
end DISP
