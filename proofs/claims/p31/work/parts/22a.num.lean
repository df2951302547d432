/-! numbers: Int32 as integers -/
def iI (z : Int) : Int32 := Int32.ofInt z
theorem iI_toInt {z : Int} (h1 : -2147483648 ≤ z) (h2 : z < 2147483648) : (iI z).toInt = z := Int32.toInt_ofInt_of_le h1 h2
theorem iI_of (x : Int32) : x = iI x.toInt := (Int32.ofInt_toInt x).symm
theorem iI_rng (x : Int32) : -2147483648 ≤ x.toInt ∧ x.toInt < 2147483648 := ⟨Int32.le_toInt x, Int32.toInt_lt x⟩
theorem iI_nI (n : Nat) : nI n = iI (n : Int) := by
  unfold nI iI
  exact (Int32.ofInt_eq_ofNat).symm
theorem iI_add (a b : Int) : iI a + iI b = iI (a + b) := (Int32.ofInt_add a b).symm
theorem iI_mul (a b : Int) : iI a * iI b = iI (a * b) := (Int32.ofInt_mul a b).symm
theorem iI_sub (a b : Int) : iI a - iI b = iI (a - b) := (Int32.ofInt_sub a b).symm
theorem iI_neg (a : Int) : - iI a = iI (-a) := (Int32.ofInt_neg a).symm
theorem lI0 : (0 : Int32) = iI 0 := by decide
theorem lI1 : (1 : Int32) = iI 1 := by decide
theorem lI2 : (2 : Int32) = iI 2 := by decide
theorem lI3 : (3 : Int32) = iI 3 := by decide
theorem lI4 : (4 : Int32) = iI 4 := by decide
theorem lI5 : (5 : Int32) = iI 5 := by decide
theorem lI6 : (6 : Int32) = iI 6 := by decide
theorem lI7 : (7 : Int32) = iI 7 := by decide
theorem lI8 : (8 : Int32) = iI 8 := by decide
theorem lI9 : (9 : Int32) = iI 9 := by decide
theorem lI10 : (10 : Int32) = iI 10 := by decide
theorem lI11 : (11 : Int32) = iI 11 := by decide
theorem lI12 : (12 : Int32) = iI 12 := by decide
theorem lI13 : (13 : Int32) = iI 13 := by decide
theorem lI14 : (14 : Int32) = iI 14 := by decide
theorem lI16 : (16 : Int32) = iI 16 := by decide
theorem lI27 : (27 : Int32) = iI 27 := by decide
theorem lI29 : (29 : Int32) = iI 29 := by decide
theorem lI30 : (30 : Int32) = iI 30 := by decide
theorem lI31 : (31 : Int32) = iI 31 := by decide
theorem lI33 : (33 : Int32) = iI 33 := by decide
theorem lI48 : (48 : Int32) = iI 48 := by decide
theorem lI50 : (50 : Int32) = iI 50 := by decide
theorem lI57 : (57 : Int32) = iI 57 := by decide
theorem lI60 : (60 : Int32) = iI 60 := by decide
theorem lI64 : (64 : Int32) = iI 64 := by decide
theorem lI65 : (65 : Int32) = iI 65 := by decide
theorem lI72 : (72 : Int32) = iI 72 := by decide
theorem lI100 : (100 : Int32) = iI 100 := by decide
theorem lI101 : (101 : Int32) = iI 101 := by decide
theorem lI102 : (102 : Int32) = iI 102 := by decide
theorem lI103 : (103 : Int32) = iI 103 := by decide
theorem lI104 : (104 : Int32) = iI 104 := by decide
theorem lI105 : (105 : Int32) = iI 105 := by decide
theorem lI106 : (106 : Int32) = iI 106 := by decide
theorem lI107 : (107 : Int32) = iI 107 := by decide
theorem lI108 : (108 : Int32) = iI 108 := by decide
theorem lI109 : (109 : Int32) = iI 109 := by decide
theorem lI110 : (110 : Int32) = iI 110 := by decide
theorem lI111 : (111 : Int32) = iI 111 := by decide
theorem lI112 : (112 : Int32) = iI 112 := by decide
theorem lI113 : (113 : Int32) = iI 113 := by decide
theorem lI114 : (114 : Int32) = iI 114 := by decide
theorem lI115 : (115 : Int32) = iI 115 := by decide
theorem lI116 : (116 : Int32) = iI 116 := by decide
theorem lI117 : (117 : Int32) = iI 117 := by decide
theorem lI118 : (118 : Int32) = iI 118 := by decide
theorem lI119 : (119 : Int32) = iI 119 := by decide
theorem lI120 : (120 : Int32) = iI 120 := by decide
theorem lI124 : (124 : Int32) = iI 124 := by decide
theorem lI128 : (128 : Int32) = iI 128 := by decide
theorem lI184 : (184 : Int32) = iI 184 := by decide
theorem lI185 : (185 : Int32) = iI 185 := by decide
theorem lI186 : (186 : Int32) = iI 186 := by decide
theorem lI187 : (187 : Int32) = iI 187 := by decide
theorem lI188 : (188 : Int32) = iI 188 := by decide
theorem lI189 : (189 : Int32) = iI 189 := by decide
theorem lI190 : (190 : Int32) = iI 190 := by decide
theorem lI191 : (191 : Int32) = iI 191 := by decide
theorem lI192 : (192 : Int32) = iI 192 := by decide
theorem lI193 : (193 : Int32) = iI 193 := by decide
theorem lI194 : (194 : Int32) = iI 194 := by decide
theorem lI195 : (195 : Int32) = iI 195 := by decide
theorem lI196 : (196 : Int32) = iI 196 := by decide
theorem lI255 : (255 : Int32) = iI 255 := by decide
theorem lI1000 : (1000 : Int32) = iI 1000 := by decide
theorem lI2548 : (2548 : Int32) = iI 2548 := by decide
theorem lI10000 : (10000 : Int32) = iI 10000 := by decide
theorem iI_le {a b : Int} (h1 : -2147483648 ≤ a) (h2 : a < 2147483648) (h3 : -2147483648 ≤ b) (h4 : b < 2147483648) : iI a ≤ iI b ↔ a ≤ b := by
  rw [Int32.le_iff_toInt_le, iI_toInt h1 h2, iI_toInt h3 h4]
theorem iI_lt {a b : Int} (h1 : -2147483648 ≤ a) (h2 : a < 2147483648) (h3 : -2147483648 ≤ b) (h4 : b < 2147483648) : iI a < iI b ↔ a < b := by
  rw [Int32.lt_iff_toInt_lt, iI_toInt h1 h2, iI_toInt h3 h4]
theorem iI_eq {a b : Int} (h1 : -2147483648 ≤ a) (h2 : a < 2147483648) (h3 : -2147483648 ≤ b) (h4 : b < 2147483648) : iI a = iI b ↔ a = b := by
  constructor
  · intro h
    have := congrArg Int32.toInt h
    rwa [iI_toInt h1 h2, iI_toInt h3 h4] at this
  · intro h; rw [h]
theorem iI_cl {z : Int} (h1 : 0 ≤ z) (h2 : z < 2147483648) : (iI z).toNatClampNeg = z.toNat := by
  show (iI z).toInt.toNat = z.toNat
  rw [iI_toInt (by omega) h2]
theorem iI_ib {z : Int} {N : Nat} (h1 : 0 ≤ z) (h2 : z < (N : Int)) (h3 : z < 2147483648) : ib (iI z) N = true := by
  unfold ib
  have e0 : ¬ iI z < 0 := by rw [lI0, iI_lt (by omega) h3 (by decide) (by decide)]; omega
  rw [iI_cl h1 h3]
  simp only [e0, decide_false, Bool.not_false, Bool.true_and]
  exact Nat.ble_eq.mpr (by omega)
theorem iI_div {a b : Int} (h1 : 0 ≤ a) (h2 : a < 2147483648) (h3 : 0 < b) (h4 : b < 2147483648) : iI a / iI b = iI (a / b) := by
  have e1 : iI a = nI a.toNat := by rw [iI_nI]; congr 1; omega
  have e2 : iI b = nI b.toNat := by rw [iI_nI]; congr 1; omega
  rw [e1, e2, pk_div (by omega) (by omega) (by omega), iI_nI]
  congr 1
  have : ((a.toNat / b.toNat : Nat) : Int) = (a.toNat : Int) / (b.toNat : Int) := Int.natCast_ediv _ _
  rw [this]
  congr 1 <;> omega
theorem iI_inj {x y : Int32} : x = y ↔ x.toInt = y.toInt := Int32.toInt_inj.symm
theorem tLe {α : Type} {a b : Int} {x y : α} (h1 : -2147483648 ≤ a) (h2 : a < 2147483648) (h3 : -2147483648 ≤ b) (h4 : b < 2147483648) : (if iI a ≤ iI b then x else y) = if a ≤ b then x else y := by
  by_cases h : a ≤ b
  · rw [if_pos h, if_pos ((iI_le h1 h2 h3 h4).mpr h)]
  · rw [if_neg h, if_neg (fun q => h ((iI_le h1 h2 h3 h4).mp q))]
theorem tLt {α : Type} {a b : Int} {x y : α} (h1 : -2147483648 ≤ a) (h2 : a < 2147483648) (h3 : -2147483648 ≤ b) (h4 : b < 2147483648) : (if iI a < iI b then x else y) = if a < b then x else y := by
  by_cases h : a < b
  · rw [if_pos h, if_pos ((iI_lt h1 h2 h3 h4).mpr h)]
  · rw [if_neg h, if_neg (fun q => h ((iI_lt h1 h2 h3 h4).mp q))]
theorem tEq {α : Type} {a b : Int} {x y : α} (h1 : -2147483648 ≤ a) (h2 : a < 2147483648) (h3 : -2147483648 ≤ b) (h4 : b < 2147483648) : (if iI a = iI b then x else y) = if a = b then x else y := by
  by_cases h : a = b
  · rw [if_pos h, if_pos ((iI_eq h1 h2 h3 h4).mpr h)]
  · rw [if_neg h, if_neg (fun q => h ((iI_eq h1 h2 h3 h4).mp q))]
