/-! the law's calls: the text's buffer -/
section CALLT
variable {h g : HP} {a b p : Nat} {z : Nat → Int} {B : Int}
theorem fT0 : fld 197 0 = 198 := rfl
theorem fT1 : fld 197 1 = 199 := rfl
theorem chr1 : ∀ v : Fin 256, ((iI (v.val : Int)).toUInt32 % 65536).toInt32 = iI (v.val : Int) := by decide +kernel
theorem chr2 : ∀ v : Fin 256, vp_nar .char (iI (v.val : Int)) = iI (v.val : Int) := by decide +kernel
end CALLT
