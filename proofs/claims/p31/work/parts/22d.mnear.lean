/-! the reference's side of it -/
section MNEAR
variable {h : HP} {a : Nat} {z T : Nat → Int}
theorem ib_d0 {d : Nat} (hd : d < 10) : ib (iI (124 + 6 * (d : Int) + 0)) 196 = true := iI_ib (by omega) (by omega) (by omega)
theorem ib_d1 {d : Nat} (hd : d < 10) : ib (iI (124 + 6 * (d : Int) + 1)) 196 = true := iI_ib (by omega) (by omega) (by omega)
theorem ib_d2 {d : Nat} (hd : d < 10) : ib (iI (124 + 6 * (d : Int) + 2)) 196 = true := iI_ib (by omega) (by omega) (by omega)
theorem ib_d3 {d : Nat} (hd : d < 10) : ib (iI (124 + 6 * (d : Int) + 3)) 196 = true := iI_ib (by omega) (by omega) (by omega)
theorem ib_d4 {d : Nat} (hd : d < 10) : ib (iI (124 + 6 * (d : Int) + 4)) 196 = true := iI_ib (by omega) (by omega) (by omega)
theorem ib_d5 {d : Nat} (hd : d < 10) : ib (iI (124 + 6 * (d : Int) + 5)) 196 = true := iI_ib (by omega) (by omega) (by omega)
theorem ib_184 : ib (184 : Int32) 196 = true := by decide
theorem cl_184 : (184 : Int32).toNatClampNeg = 184 := rfl
theorem ib_185 : ib (185 : Int32) 196 = true := by decide
theorem cl_185 : (185 : Int32).toNatClampNeg = 185 := rfl
theorem ib_186 : ib (186 : Int32) 196 = true := by decide
theorem cl_186 : (186 : Int32).toNatClampNeg = 186 := rfl
theorem ib_187 : ib (187 : Int32) 196 = true := by decide
theorem cl_187 : (187 : Int32).toNatClampNeg = 187 := rfl
theorem ib_188 : ib (188 : Int32) 196 = true := by decide
theorem cl_188 : (188 : Int32).toNatClampNeg = 188 := rfl
theorem ib_189 : ib (189 : Int32) 196 = true := by decide
theorem cl_189 : (189 : Int32).toNatClampNeg = 189 := rfl
theorem ib_190 : ib (190 : Int32) 196 = true := by decide
theorem cl_190 : (190 : Int32).toNatClampNeg = 190 := rfl
theorem ib_191 : ib (191 : Int32) 196 = true := by decide
theorem cl_191 : (191 : Int32).toNatClampNeg = 191 := rfl
theorem ib_192 : ib (192 : Int32) 196 = true := by decide
theorem cl_192 : (192 : Int32).toNatClampNeg = 192 := rfl
theorem ib_193 : ib (193 : Int32) 196 = true := by decide
theorem cl_193 : (193 : Int32).toNatClampNeg = 193 := rfl
theorem ib_194 : ib (194 : Int32) 196 = true := by decide
theorem cl_194 : (194 : Int32).toNatClampNeg = 194 := rfl
theorem ib_195 : ib (195 : Int32) 196 = true := by decide
theorem cl_195 : (195 : Int32).toNatClampNeg = 195 := rfl
theorem dst_b (F : WF z) {d : Nat} (hd : d < 10) (h2 : (d : Int) < z 185) {m : Int} (h3 : -100 ≤ m) (h4 : m < 100) : 0 ≤ dst z d m ∧ dst z d m < 200 := by
  have hW := F.wall hd h2
  have hD := F.2.2.2.2.2.1 d hd
  unfold dst
  split
  · omega
  · split <;> omega
def Best (z T : Nat → Int) (d : Nat) (q i : Int) : Prop :=
  (q = -1 ∧ ∀ m, fre z T (z (127 + 6 * d)).toNat m → m < i → z 191 < dst z d m) ∨
  (fre z T (z (127 + 6 * d)).toNat q ∧ q < i ∧ dst z d q ≤ z 191 ∧ ∀ m, fre z T (z (127 + 6 * d)).toNat m → m < i → dst z d q < dst z d m ∨ (dst z d q = dst z d m ∧ q ≤ m))
end MNEAR
