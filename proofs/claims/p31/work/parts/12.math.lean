/-! printed by wip/p31/gen.py: what java/lang/Math compute, and the rows that tie it to the machine -/
def f_J_floorMod (h : HP) (x0 : Int32) (x1 : Int32) : Option (Int32) :=
  if ¬ x1 = 0 then
  if 0 ≤ (x0 ^^^ x1) then
    some (x0 - x0 / x1 * x1)
  else
    if (x0 - x0 / x1 * x1) = 0 then
      some (x0 - x0 / x1 * x1)
    else
      some ((x0 - x0 / x1 * x1) + x1)
  else none
set_option maxHeartbeats 1000000 in
theorem x_J_floorMod {l : Launch} {D : va_G} {ad : Nat → Nat} {aC : Nat → ClassId} (hf : l.flags = flags0) (hI : Inj ad) {h : HP} {x0 : Int32} {x1 : Int32} {r : Int32}  (e : f_J_floorMod h x0 x1 = some r) : CT l D ad aC m_J_floorMod [.int x0, .int x1] h (.inl (some (.int r))) h := by
  refine CT.ofGo (by decide +kernel) rfl (Nat.le_of_ble_eq_true rfl) ?_
  unfold f_J_floorMod at e
  show Go l D ad aC (rmk m_J_floorMod) _ m_J_floorMod 0 [some (.int x0), some (.int x1), none] [] h 0 0
  refine Go.run (pc' := 2) [.iload_n 0, .iload_n 1] (ls' := [some (.int x0), some (.int x1), none]) (st' := [.int x1, .int x0]) (by decide +kernel) rfl rfl ?_
  obtain ⟨g1, e⟩ := gd_inv e
  refine Go.iremn g1 (by decide +kernel) ?_
  refine Go.run (pc' := 7) [.istore_n 2, .iload_n 0, .iload_n 1, .ixor] (ls' := [some (.int x0), some (.int x1), some (.int (x0 - x0 / x1 * x1))]) (st' := [.int (x0 ^^^ x1)]) (by decide +kernel) rfl rfl ?_
  refine Go.if_ge (off := 11) (tgt := 18) (by decide +kernel) (by decide) (fun c2 => ?_) (fun c2 => ?_)
  · replace e := ite_t c2 e
    refine Go.run (pc' := 19) [.iload_n 2] (ls' := [some (.int x0), some (.int x1), some (.int (x0 - x0 / x1 * x1))]) (st' := [.int (x0 - x0 / x1 * x1)]) (by decide +kernel) rfl rfl ?_
    obtain rfl := Option.some.inj e
    exact Go.iret rfl (by decide) (by decide) (by decide +kernel)
  · replace e := ite_f c2 e
    refine Go.run (pc' := 11) [.iload_n 2] (ls' := [some (.int x0), some (.int x1), some (.int (x0 - x0 / x1 * x1))]) (st' := [.int (x0 - x0 / x1 * x1)]) (by decide +kernel) rfl rfl ?_
    refine Go.if_eq (off := 7) (tgt := 18) (by decide +kernel) (by decide) (fun c3 => ?_) (fun c3 => ?_)
    · replace e := ite_t c3 e
      refine Go.run (pc' := 19) [.iload_n 2] (ls' := [some (.int x0), some (.int x1), some (.int (x0 - x0 / x1 * x1))]) (st' := [.int (x0 - x0 / x1 * x1)]) (by decide +kernel) rfl rfl ?_
      obtain rfl := Option.some.inj e
      exact Go.iret rfl (by decide) (by decide) (by decide +kernel)
    · replace e := ite_f c3 e
      refine Go.run (pc' := 17) [.iload_n 2, .iload_n 1, .iadd] (ls' := [some (.int x0), some (.int x1), some (.int (x0 - x0 / x1 * x1))]) (st' := [.int ((x0 - x0 / x1 * x1) + x1)]) (by decide +kernel) rfl rfl ?_
      obtain rfl := Option.some.inj e
      exact Go.iret rfl (by decide) (by decide) (by decide +kernel)
def f_J_max (h : HP) (x0 : Int32) (x1 : Int32) : Option (Int32) :=
  if x0 < x1 then
    some x1
  else
    some x0
set_option maxHeartbeats 1000000 in
theorem x_J_max {l : Launch} {D : va_G} {ad : Nat → Nat} {aC : Nat → ClassId} (hf : l.flags = flags0) (hI : Inj ad) {h : HP} {x0 : Int32} {x1 : Int32} {r : Int32}  (e : f_J_max h x0 x1 = some r) : CT l D ad aC m_J_max [.int x0, .int x1] h (.inl (some (.int r))) h := by
  refine CT.ofGo (by decide +kernel) rfl (Nat.le_of_ble_eq_true rfl) ?_
  unfold f_J_max at e
  show Go l D ad aC (rmk m_J_max) _ m_J_max 0 [some (.int x0), some (.int x1)] [] h 0 0
  refine Go.run (pc' := 2) [.iload_n 0, .iload_n 1] (ls' := [some (.int x0), some (.int x1)]) (st' := [.int x1, .int x0]) (by decide +kernel) rfl rfl ?_
  refine Go.ic_lt (off := 7) (tgt := 9) (by decide +kernel) (by decide) (fun c1 => ?_) (fun c1 => ?_)
  · replace e := ite_t c1 e
    refine Go.run (pc' := 10) [.iload_n 1] (ls' := [some (.int x0), some (.int x1)]) (st' := [.int x1]) (by decide +kernel) rfl rfl ?_
    obtain rfl := Option.some.inj e
    exact Go.iret rfl (by decide) (by decide) (by decide +kernel)
  · replace e := ite_f c1 e
    refine Go.run (pc' := 6) [.iload_n 0] (ls' := [some (.int x0), some (.int x1)]) (st' := [.int x0]) (by decide +kernel) rfl rfl ?_
    refine Go.goto (off := 4) (tgt := 10) (by decide +kernel) (by decide) ?_
    obtain rfl := Option.some.inj e
    exact Go.iret rfl (by decide) (by decide) (by decide +kernel)
def f_J_min (h : HP) (x0 : Int32) (x1 : Int32) : Option (Int32) :=
  if x1 < x0 then
    some x1
  else
    some x0
set_option maxHeartbeats 1000000 in
theorem x_J_min {l : Launch} {D : va_G} {ad : Nat → Nat} {aC : Nat → ClassId} (hf : l.flags = flags0) (hI : Inj ad) {h : HP} {x0 : Int32} {x1 : Int32} {r : Int32}  (e : f_J_min h x0 x1 = some r) : CT l D ad aC m_J_min [.int x0, .int x1] h (.inl (some (.int r))) h := by
  refine CT.ofGo (by decide +kernel) rfl (Nat.le_of_ble_eq_true rfl) ?_
  unfold f_J_min at e
  show Go l D ad aC (rmk m_J_min) _ m_J_min 0 [some (.int x0), some (.int x1)] [] h 0 0
  refine Go.run (pc' := 2) [.iload_n 0, .iload_n 1] (ls' := [some (.int x0), some (.int x1)]) (st' := [.int x1, .int x0]) (by decide +kernel) rfl rfl ?_
  refine Go.ic_gt (off := 7) (tgt := 9) (by decide +kernel) (by decide) (fun c1 => ?_) (fun c1 => ?_)
  · replace e := ite_t c1 e
    refine Go.run (pc' := 10) [.iload_n 1] (ls' := [some (.int x0), some (.int x1)]) (st' := [.int x1]) (by decide +kernel) rfl rfl ?_
    obtain rfl := Option.some.inj e
    exact Go.iret rfl (by decide) (by decide) (by decide +kernel)
  · replace e := ite_f c1 e
    refine Go.run (pc' := 6) [.iload_n 0] (ls' := [some (.int x0), some (.int x1)]) (st' := [.int x0]) (by decide +kernel) rfl rfl ?_
    refine Go.goto (off := 4) (tgt := 10) (by decide +kernel) (by decide) ?_
    obtain rfl := Option.some.inj e
    exact Go.iret rfl (by decide) (by decide) (by decide +kernel)
def f_F_inRange (h : HP) (x0 : Int32) (x1 : Int32) (x2 : Int32) : Option (Int32) :=
  if x0 < x1 then
    some (0 : Int32)
  else
    if x2 < x0 then
      some (0 : Int32)
    else
      some (1 : Int32)
set_option maxHeartbeats 1000000 in
theorem x_F_inRange {l : Launch} {D : va_G} {ad : Nat → Nat} {aC : Nat → ClassId} (hf : l.flags = flags0) (hI : Inj ad) {h : HP} {x0 : Int32} {x1 : Int32} {x2 : Int32} {r : Int32}  (e : f_F_inRange h x0 x1 x2 = some r) : CT l D ad aC m_F_inRange [.int x0, .int x1, .int x2] h (.inl (some (.int r))) h := by
  refine CT.ofGo (by decide +kernel) rfl (Nat.le_of_ble_eq_true rfl) ?_
  unfold f_F_inRange at e
  show Go l D ad aC (rmk m_F_inRange) _ m_F_inRange 0 [some (.int x0), some (.int x1), some (.int x2)] [] h 0 0
  refine Go.run (pc' := 2) [.iload_n 0, .iload_n 1] (ls' := [some (.int x0), some (.int x1), some (.int x2)]) (st' := [.int x1, .int x0]) (by decide +kernel) rfl rfl ?_
  refine Go.ic_lt (off := 12) (tgt := 14) (by decide +kernel) (by decide) (fun c1 => ?_) (fun c1 => ?_)
  · replace e := ite_t c1 e
    refine Go.run (pc' := 15) [.iconst 0] (ls' := [some (.int x0), some (.int x1), some (.int x2)]) (st' := [.int (0 : Int32)]) (by decide +kernel) rfl rfl ?_
    obtain rfl := Option.some.inj e
    exact Go.zret rfl nar_z0 (by decide) (by decide) (by decide +kernel)
  · replace e := ite_f c1 e
    refine Go.run (pc' := 7) [.iload_n 0, .iload_n 2] (ls' := [some (.int x0), some (.int x1), some (.int x2)]) (st' := [.int x2, .int x0]) (by decide +kernel) rfl rfl ?_
    refine Go.ic_gt (off := 7) (tgt := 14) (by decide +kernel) (by decide) (fun c2 => ?_) (fun c2 => ?_)
    · replace e := ite_t c2 e
      refine Go.run (pc' := 15) [.iconst 0] (ls' := [some (.int x0), some (.int x1), some (.int x2)]) (st' := [.int (0 : Int32)]) (by decide +kernel) rfl rfl ?_
      obtain rfl := Option.some.inj e
      exact Go.zret rfl nar_z0 (by decide) (by decide) (by decide +kernel)
    · replace e := ite_f c2 e
      refine Go.run (pc' := 11) [.iconst 1] (ls' := [some (.int x0), some (.int x1), some (.int x2)]) (st' := [.int (1 : Int32)]) (by decide +kernel) rfl rfl ?_
      refine Go.goto (off := 4) (tgt := 15) (by decide +kernel) (by decide) ?_
      obtain rfl := Option.some.inj e
      exact Go.zret rfl nar_z1 (by decide) (by decide) (by decide +kernel)
