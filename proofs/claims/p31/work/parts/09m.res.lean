/-! a method whose cost follows its answer: none where it returns, one exception where it throws -/
abbrev mr (M : MI) (res : Res) : MI := (M.1, M.2.1, M.2.2.1, M.2.2.2.1, M.2.2.2.2.1, (match res with | .inl _ => 0 | .inr _ => 1), M.2.2.2.2.2.2)
section RESM
variable {l : Launch} {D : va_G} {ad : Nat → Nat} {aC : Nat → ClassId} {R : Room} {QQ : List Frame → Array Value → State → State → Prop} {M M2 : MI} {pc k n idx : Nat} {ls : List (Option Value)} {st : List Value} {h h' : HP} {res : Res} {own : String} {nn : Nat}
theorem Go.mr (g : Go l D ad aC R QQ (mr M res) pc ls st h k n) : Go l D ad aC R QQ M pc ls st h k n := g
theorem WS.mr (w : WS own idx M nn) : WS own idx (mr M res) nn := w
theorem WV.mr (w : WV own idx M nn) : WV own idx (mr M res) nn := w
theorem CT.ofGoR {as : List Value} (hy : plainFor M.y = true) (hh : M.hh = []) (hL : (ini as).length ≤ M.mL) (g : Go l D ad aC (rmk (mr M res)) (QM D ad aC (mr M res) res h') M 0 (inil as M.mL) [] h 0 0) : CT l D ad aC (mr M res) as h res h' := CT.ofGo (M := mr M res) hy hh hL g
end RESM
