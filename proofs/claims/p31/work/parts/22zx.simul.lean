/-! the law's calls: simulate, runScript -/
def rEx (x : Int64) : Int32 := (((x.toUInt64 >>> ((33 : Int32).toInt64.toUInt64 &&& Int64.toUInt64 63)).toInt64).toInt32)
def lcg (x : Int64) : Int64 := x * 6364136223846793005 + 1442695040888963407
theorem lcg_e (x : Int64) : x * 6364136223846793005 + 1442695040888963407 = lcg x := rfl
def simF (st : Int64 → (Nat → Int) → (Nat → Int)) (nx : Int64 → Int64) : Nat → Int64 → (Nat → Int) → (Nat → Int)
  | 0, _, z => z
  | n + 1, x, z => simF st nx n (nx x) (st (nx x) z)
noncomputable def trS (x : Int64) (z : Nat → Int) : Nat → Int := (trnZ z (rEx x).toInt).2
noncomputable def simR (z : Nat → Int) : Int := 1000 * rtsZ z + 10 * hasZ z + z 184
theorem rEx_e (x : Int64) : (((x.toUInt64 >>> ((33 : Int32).toInt64.toUInt64 &&& Int64.toUInt64 63)).toInt64).toInt32) = rEx x := rfl
theorem trS_e (x : Int64) (z : Nat → Int) : (trnZ z (rEx x).toInt).2 = trS x z := rfl
def i64 (s : Int) : Int64 := Int64.ofInt s
def p5 : Nat → Int
  | 0 => 1
  | n + 1 => 100000 * p5 n
def t10 : Nat → Int
  | 0 => 1
  | n + 1 => 10 * t10 n
noncomputable def scrZ (G : Nat → Int) : Nat → Nat → (Nat → Int) → Int
  | 0, _, _ => -1
  | m + 1, i, z => if (cmdZ z (G i)).1 = true then scrZ G m (i + 1) (cmdZ z (G i)).2 else i
section SIM
variable {h g : HP} {a b p : Nat} {z u : Nat → Int} {B : Int}
theorem rEx_b (x : Int64) : 0 ≤ (rEx x).toInt ∧ (rEx x).toInt < 2147483648 := by
  have e : ((33 : Int32).toInt64.toUInt64 &&& Int64.toUInt64 63) = 33 := by decide
  have hlt : (x.toUInt64 >>> 33).toNat < 2147483648 := by
    rw [UInt64.toNat_shiftRight]
    have h33 : (33 : UInt64).toNat % 64 = 33 := by decide
    rw [h33, Nat.shiftRight_eq_div_pow]
    have := x.toUInt64.toNat_lt
    omega
  have e1 : (x.toUInt64 >>> 33).toInt64.toInt = ((x.toUInt64 >>> 33).toNat : Int) := by
    have : 2 * (x.toUInt64 >>> 33).toBitVec.toNat < 2 ^ 64 := by
      have e2 : (x.toUInt64 >>> 33).toBitVec.toNat = (x.toUInt64 >>> 33).toNat := rfl
      rw [e2]
      omega
    exact BitVec.toInt_eq_toNat_of_lt this
  unfold rEx
  rw [e, Int64.toInt_toInt32, e1, Int.bmod_eq_of_le (by omega) (by omega)]
  omega
theorem rEx_I (x : Int64) : rEx x = iI (rEx x).toInt := iI_of _
theorem c_sim : ∀ (n k fu : Nat) (N : Nat) (x : Int64) (h : HP) (y : Nat → Int) (B : Int), k + n = N → N ≤ 60 → n < fu → B + 42000 * n < 2147483648 → OKz B y → RepA h 183 10 188 y → ∃ h', f_F_simulate_30 fu 180 (iI N) x (iI k) h = some (.inl (some (.int (iI (simR (simF trS lcg n x y))))), h') ∧ (∀ i, ¬ own 10 188 i → h' i = h i) := by
  intro n
  induction n with
  | zero =>
    intro k fu N x h y B hk hN hfu hB K RA
    obtain ⟨fu, rfl⟩ : ∃ k, fu = k + 1 := ⟨fu - 1, by omega⟩
    obtain ⟨S, R, RP, F⟩ := id RA
    refine ⟨h, ?_, fun _ _ => rfl⟩
    rw [simF, simR, f_F_simulate_30, tLe (by omega) (by omega) (by omega) (by omega), if_pos (by omega), f183, a_rents S R RP F, Option.bind_some, a_standing S R F, Option.bind_some, show fld 183 0 = 10 from rfl, R.nw, lI1000, lI10, iI_mul, iI_mul, iI_add, iI_add]
  | succ n ih =>
    intro k fu N x h y B hk hN hfu hB K RA
    obtain ⟨fu, rfl⟩ : ∃ k, fu = k + 1 := ⟨fu - 1, by omega⟩
    rw [simF, f_F_simulate_30, tLe (by omega) (by omega) (by omega) (by omega), if_neg (by omega), f183, lcg_e, rEx_e]
    generalize lcg x = x'
    have hr := rEx_b x'
    obtain ⟨h1, g1, g2, g3, -⟩ := c_turn RA K (by omega) hr
    have K1 := trnZ_ok K (rEx x').toInt
    rw [trS_e] at g2 K1
    obtain ⟨h', q1, q2⟩ := ih (k + 1) fu N x' h1 (trS x' y) (B + 42000) (by omega) hN (by omega) (by omega) K1 g2
    refine ⟨h', ?_, fun i hi => by rw [q2 i hi, g3 i hi]⟩
    rw [← rEx_I] at g1
    rw [g1, Option.bind_some, lI1, iI_add, show (k : Int) + 1 = ((k + 1 : Nat) : Int) by omega]
    exact q1
end SIM
