/-! "wodplsne".indexOf(c) -/
section IXOF
variable {l : Launch} {D : va_G} {ad : Nat → Nat} {aC : Nat → ClassId} {R : Room} {QQ : List Frame → Array Value → State → State → Prop} {M M2 : MI} {pc k n idx : Nat} {ls ls' : List (Option Value)} {st st' rest as : List Value} {h h1 : HP}
theorem goCallIx {c : Int32} (hM : M.y.cls = "FairWalls$FairText") (hd : decode M.b pc = .ok (.invokevirtual 42, 3)) (hR : 6 ≤ R.frames ∧ 228 ≤ R.locals) (hcat : (rest.map fun v => v.category).sum ≤ 8) (g : Go l D ad aC R QQ M (pc + 3) ls (.int (lix c) :: rest) h k n) : Go l D ad aC R QQ M pc ls (.int c :: .ref 215 :: rest) h k n := sorry
end IXOF
