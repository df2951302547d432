/-! printed by wip/p31/gen.py: what FairWalls$FairText, FairWalls$Past, FairWalls$Slots compute, and the rows that tie it to the machine -/
def f_T_size (h : HP) (a0 : Nat) : Option (Int32) :=
  some (h a0 2)
set_option maxHeartbeats 1000000 in
theorem x_T_size {l : Launch} {D : va_G} {ad : Nat → Nat} {aC : Nat → ClassId} (hf : l.flags = flags0) (hI : Inj ad) {h : HP} {a0 : Nat} {r : Int32} (k0 : knd a0 = 2) (e : f_T_size h a0 = some r) : CT l D ad aC m_T_size [.ref a0] h (.inl (some (.int r))) h := by
  refine CT.ofGo (by decide +kernel) rfl (Nat.le_of_ble_eq_true rfl) ?_
  unfold f_T_size at e
  show Go l D ad aC (rmk m_T_size) _ m_T_size 0 [some (.ref a0)] [] h 0 0
  refine Go.run (pc' := 1) [.aload_n 0] (ls' := [some (.ref a0)]) (st' := [.ref a0]) (by decide +kernel) rfl rfl ?_
  refine Go.getI fo_T_19 k0 (by decide +kernel) ?_
  obtain rfl := Option.some.inj e
  exact Go.iret rfl (by decide) (by decide) (by decide +kernel)
def f_T_add_36  (a0 : Nat) (h : HP) : Option (Int32 × HP) :=
  some (h a0 2, h)
set_option maxHeartbeats 1000000 in
theorem x_T_add_36 {l : Launch} {D : va_G} {ad : Nat → Nat} {aC : Nat → ClassId} (hf : l.flags = flags0) (hI : Inj ad) {a0 : Nat} {h : HP} {r : Int32 × HP} (k0 : knd a0 = 2) (e : f_T_add_36 a0 h = some r) : Go l D ad aC (rmk m_T_add) (QM D ad aC m_T_add (.inl (some (.int r.1))) r.2) m_T_add 36 [some (.ref a0), none] [] h 0 0 := by
  unfold f_T_add_36 at e
  refine Go.run (pc' := 37) [.aload_n 0] (ls' := [some (.ref a0), none]) (st' := [.ref a0]) (by decide +kernel) rfl rfl ?_
  refine Go.getI fo_T_19 k0 (by decide +kernel) ?_
  obtain rfl := Option.some.inj e
  exact Go.iret rfl (by decide) (by decide) (by decide +kernel)
def f_T_add (h : HP) (a0 : Nat) (x1 : Int32) : Option (Int32 × HP) :=
  if (h a0 2) < 0 then
    f_T_add_36 a0 h
  else
    if (120 : Int32) ≤ (h a0 2) then
      f_T_add_36 a0 h
    else
      if ib (h a0 2) 120 = true then
      if vp_nar .char x1 = x1 then
      (some (hset h (fld a0 0) (h a0 2).toNatClampNeg x1)).bind fun h5 =>
      (some (hset h5 a0 2 ((h5 a0 2) + (1 : Int32)))).bind fun h7 =>
      f_T_add_36 a0 h7
      else none
      else none
set_option maxHeartbeats 1000000 in
theorem x_T_add {l : Launch} {D : va_G} {ad : Nat → Nat} {aC : Nat → ClassId} (hf : l.flags = flags0) (hI : Inj ad) {h : HP} {a0 : Nat} {x1 : Int32} {r : Int32 × HP} (k0 : knd a0 = 2) (e : f_T_add h a0 x1 = some r) : CT l D ad aC m_T_add [.ref a0, .int x1] h (.inl (some (.int r.1))) r.2 := by
  refine CT.ofGo (by decide +kernel) rfl (Nat.le_of_ble_eq_true rfl) ?_
  unfold f_T_add at e
  show Go l D ad aC (rmk m_T_add) _ m_T_add 0 [some (.ref a0), some (.int x1)] [] h 0 0
  refine Go.run (pc' := 1) [.aload_n 0] (ls' := [some (.ref a0), some (.int x1)]) (st' := [.ref a0]) (by decide +kernel) rfl rfl ?_
  refine Go.getI fo_T_19 k0 (by decide +kernel) ?_
  refine Go.if_lt (off := 32) (tgt := 36) (by decide +kernel) (by decide) (fun c1 => ?_) (fun c1 => ?_)
  · replace e := ite_t c1 e
    refine Go.wk' (wks (wkn wk0)) ?_
    exact x_T_add_36 hf hI k0 e
  · replace e := ite_f c1 e
    refine Go.run (pc' := 8) [.aload_n 0] (ls' := [some (.ref a0), some (.int x1)]) (st' := [.ref a0]) (by decide +kernel) rfl rfl ?_
    refine Go.getI fo_T_19 k0 (by decide +kernel) ?_
    refine Go.run (pc' := 13) [.bipush (120)] (ls' := [some (.ref a0), some (.int x1)]) (st' := [.int (120 : Int32), .int (h a0 2)]) (by decide +kernel) rfl rfl ?_
    refine Go.ic_ge (off := 23) (tgt := 36) (by decide +kernel) (by decide) (fun c2 => ?_) (fun c2 => ?_)
    · replace e := ite_t c2 e
      refine Go.wk' (wks (wkn wk0)) ?_
      exact x_T_add_36 hf hI k0 e
    · replace e := ite_f c2 e
      refine Go.run (pc' := 17) [.aload_n 0] (ls' := [some (.ref a0), some (.int x1)]) (st' := [.ref a0]) (by decide +kernel) rfl rfl ?_
      refine Go.getR fo_T_9 k0 (by decide +kernel) ?_
      refine Go.run (pc' := 21) [.aload_n 0] (ls' := [some (.ref a0), some (.int x1)]) (st' := [.ref a0, .ref (fld a0 0)]) (by decide +kernel) rfl rfl ?_
      refine Go.getI fo_T_19 k0 (by decide +kernel) ?_
      refine Go.run (pc' := 25) [.iload_n 1] (ls' := [some (.ref a0), some (.int x1)]) (st' := [.int x1, .int (h a0 2), .ref (fld a0 0)]) (by decide +kernel) rfl rfl ?_
      obtain ⟨g3, e⟩ := gd_inv e
      obtain ⟨g4, e⟩ := gd_inv e
      refine Go.cast hI (kf_2_0 k0) (al_2_0 k0) g3 g4 (by decide +kernel) ?_
      obtain ⟨h5, q6, e⟩ := bd_inv e
      refine Go.eqH (Option.some.inj q6) ?_
      refine Go.run (pc' := 28) [.aload_n 0, .dup] (ls' := [some (.ref a0), some (.int x1)]) (st' := [.ref a0, .ref a0]) (by decide +kernel) rfl rfl ?_
      refine Go.getI fo_T_19 k0 (by decide +kernel) ?_
      refine Go.run (pc' := 33) [.iconst 1, .iadd] (ls' := [some (.ref a0), some (.int x1)]) (st' := [.int ((h5 a0 2) + (1 : Int32)), .ref a0]) (by decide +kernel) rfl rfl ?_
      refine Go.put hI po_T_19 k0 (nar_i _) (fit_i _) (by decide +kernel) ?_
      obtain ⟨h7, q8, e⟩ := bd_inv e
      refine Go.eqH (Option.some.inj q8) ?_
      refine Go.wk' (wks (wkn wk0)) ?_
      exact x_T_add_36 hf hI k0 e
def f_T_empty (h : HP) (a0 : Nat) : Option (Int32 × HP) :=
  (some (hset h a0 2 (0 : Int32))).bind fun h1 =>
  some (h a0 2, h1)
set_option maxHeartbeats 1000000 in
theorem x_T_empty {l : Launch} {D : va_G} {ad : Nat → Nat} {aC : Nat → ClassId} (hf : l.flags = flags0) (hI : Inj ad) {h : HP} {a0 : Nat} {r : Int32 × HP} (k0 : knd a0 = 2) (e : f_T_empty h a0 = some r) : CT l D ad aC m_T_empty [.ref a0] h (.inl (some (.int r.1))) r.2 := by
  refine CT.ofGo (by decide +kernel) rfl (Nat.le_of_ble_eq_true rfl) ?_
  unfold f_T_empty at e
  show Go l D ad aC (rmk m_T_empty) _ m_T_empty 0 [some (.ref a0), none] [] h 0 0
  refine Go.run (pc' := 1) [.aload_n 0] (ls' := [some (.ref a0), none]) (st' := [.ref a0]) (by decide +kernel) rfl rfl ?_
  refine Go.getI fo_T_19 k0 (by decide +kernel) ?_
  refine Go.run (pc' := 7) [.istore_n 1, .aload_n 0, .iconst 0] (ls' := [some (.ref a0), some (.int (h a0 2))]) (st' := [.int (0 : Int32), .ref a0]) (by decide +kernel) rfl rfl ?_
  refine Go.put hI po_T_19 k0 (nar_i _) (fit_i _) (by decide +kernel) ?_
  obtain ⟨h1, q2, e⟩ := bd_inv e
  refine Go.eqH (Option.some.inj q2) ?_
  refine Go.run (pc' := 11) [.iload_n 1] (ls' := [some (.ref a0), some (.int (h a0 2))]) (st' := [.int (h a0 2)]) (by decide +kernel) rfl rfl ?_
  obtain rfl := Option.some.inj e
  exact Go.iret rfl (by decide) (by decide) (by decide +kernel)
def f_T_letter (h : HP) (a0 : Nat) : Option (Int32) :=
  some (h a0 4)
set_option maxHeartbeats 1000000 in
theorem x_T_letter {l : Launch} {D : va_G} {ad : Nat → Nat} {aC : Nat → ClassId} (hf : l.flags = flags0) (hI : Inj ad) {h : HP} {a0 : Nat} {r : Int32} (k0 : knd a0 = 2) (e : f_T_letter h a0 = some r) : CT l D ad aC m_T_letter [.ref a0] h (.inl (some (.int r))) h := by
  refine CT.ofGo (by decide +kernel) rfl (Nat.le_of_ble_eq_true rfl) ?_
  unfold f_T_letter at e
  show Go l D ad aC (rmk m_T_letter) _ m_T_letter 0 [some (.ref a0)] [] h 0 0
  refine Go.run (pc' := 1) [.aload_n 0] (ls' := [some (.ref a0)]) (st' := [.ref a0]) (by decide +kernel) rfl rfl ?_
  refine Go.getI fo_T_23 k0 (by decide +kernel) ?_
  obtain rfl := Option.some.inj e
  exact Go.iret rfl (by decide) (by decide) (by decide +kernel)
def f_T_number (h : HP) (a0 : Nat) (x1 : Int32) : Option (Int32) :=
  (f_F_inRange h x1 (0 : Int32) (2 : Int32)).bind fun v1 =>
  if v1 = 0 then
    some (-1 : Int32)
  else
    if ib x1 3 = true then
    some (h (fld a0 1) x1.toNatClampNeg)
    else none
set_option maxHeartbeats 1000000 in
theorem x_T_number {l : Launch} {D : va_G} {ad : Nat → Nat} {aC : Nat → ClassId} (hf : l.flags = flags0) (hI : Inj ad) {h : HP} {a0 : Nat} {x1 : Int32} {r : Int32} (k0 : knd a0 = 2) (e : f_T_number h a0 x1 = some r) : CT l D ad aC m_T_number [.ref a0, .int x1] h (.inl (some (.int r))) h := by
  refine CT.ofGo (by decide +kernel) rfl (Nat.le_of_ble_eq_true rfl) ?_
  unfold f_T_number at e
  show Go l D ad aC (rmk m_T_number) _ m_T_number 0 [some (.ref a0), some (.int x1)] [] h 0 0
  refine Go.run (pc' := 3) [.iload_n 1, .iconst 0, .iconst 2] (ls' := [some (.ref a0), some (.int x1)]) (st' := [.int (2 : Int32), .int (0 : Int32), .int x1]) (by decide +kernel) rfl rfl ?_
  obtain ⟨v1, e2, e⟩ := bd_inv e
  refine Go.callN (M2 := m_F_inRange) (as := [.int x1, .int (0 : Int32), .int (2 : Int32)]) (rest := []) (v := some (.int v1)) (h1 := h) (x_F_inRange hf hI  e2) wn_T_26 (by decide +kernel) rfl rfl ⟨⟨Nat.le_of_ble_eq_true rfl, Nat.le_of_ble_eq_true rfl⟩, ⟨Nat.le_of_ble_eq_true rfl, Nat.le_of_ble_eq_true rfl⟩⟩ (Nat.le_of_ble_eq_true rfl) ?_
  show Go l D ad aC (rmk m_T_number) _ m_T_number 6 [some (.ref a0), some (.int x1)] [.int v1] h 0 0
  refine Go.if_eq (off := 12) (tgt := 18) (by decide +kernel) (by decide) (fun c3 => ?_) (fun c3 => ?_)
  · replace e := ite_t c3 e
    refine Go.run (pc' := 19) [.iconst (-1)] (ls' := [some (.ref a0), some (.int x1)]) (st' := [.int (-1 : Int32)]) (by decide +kernel) rfl rfl ?_
    obtain rfl := Option.some.inj e
    exact Go.iret rfl (by decide) (by decide) (by decide +kernel)
  · replace e := ite_f c3 e
    refine Go.run (pc' := 10) [.aload_n 0] (ls' := [some (.ref a0), some (.int x1)]) (st' := [.ref a0]) (by decide +kernel) rfl rfl ?_
    refine Go.getR fo_T_15 k0 (by decide +kernel) ?_
    refine Go.run (pc' := 14) [.iload_n 1] (ls' := [some (.ref a0), some (.int x1)]) (st' := [.int x1, .ref (fld a0 1)]) (by decide +kernel) rfl rfl ?_
    obtain ⟨g4, e⟩ := gd_inv e
    refine Go.iald (kf_2_1 k0) (al_2_1 k0) g4 (by decide +kernel) ?_
    refine Go.goto (off := 4) (tgt := 19) (by decide +kernel) (by decide) ?_
    obtain rfl := Option.some.inj e
    exact Go.iret rfl (by decide) (by decide) (by decide +kernel)
def f_T_goToCommands (h : HP) (a0 : Nat) : Option (HP) :=
  (some (hset h a0 3 (1 : Int32))).bind fun h1 =>
  some h1
set_option maxHeartbeats 1000000 in
theorem x_T_goToCommands {l : Launch} {D : va_G} {ad : Nat → Nat} {aC : Nat → ClassId} (hf : l.flags = flags0) (hI : Inj ad) {h : HP} {a0 : Nat} {r : HP} (k0 : knd a0 = 2) (e : f_T_goToCommands h a0 = some r) : CT l D ad aC m_T_goToCommands [.ref a0] h (.inl none) r := by
  refine CT.ofGo (by decide +kernel) rfl (Nat.le_of_ble_eq_true rfl) ?_
  unfold f_T_goToCommands at e
  show Go l D ad aC (rmk m_T_goToCommands) _ m_T_goToCommands 0 [some (.ref a0)] [] h 0 0
  refine Go.run (pc' := 2) [.aload_n 0, .iconst 1] (ls' := [some (.ref a0)]) (st' := [.int (1 : Int32), .ref a0]) (by decide +kernel) rfl rfl ?_
  refine Go.put hI po_T_33 k0 (nar_i _) (fit_i _) (by decide +kernel) ?_
  obtain ⟨h1, q2, e⟩ := bd_inv e
  refine Go.eqH (Option.some.inj q2) ?_
  obtain rfl := Option.some.inj e
  exact Go.vret rfl (by decide) (by decide) (by decide +kernel)
def f_T_readDigit (h : HP) (a0 : Nat) : Option (Int32) :=
  if (h a0 3) < 0 then
    some (-1 : Int32)
  else
    if (h a0 2) ≤ (h a0 3) then
      some (-1 : Int32)
    else
      if (h a0 3) < (120 : Int32) then
        if ib (h a0 3) 120 = true then
        if (h (fld a0 0) (h a0 3).toNatClampNeg) < (48 : Int32) then
          some (-1 : Int32)
        else
          if (57 : Int32) < (h (fld a0 0) (h a0 3).toNatClampNeg) then
            some (-1 : Int32)
          else
            some ((h (fld a0 0) (h a0 3).toNatClampNeg) - (48 : Int32))
        else none
      else
        some (-1 : Int32)
set_option maxHeartbeats 1000000 in
theorem x_T_readDigit {l : Launch} {D : va_G} {ad : Nat → Nat} {aC : Nat → ClassId} (hf : l.flags = flags0) (hI : Inj ad) {h : HP} {a0 : Nat} {r : Int32} (k0 : knd a0 = 2) (e : f_T_readDigit h a0 = some r) : CT l D ad aC m_T_readDigit [.ref a0] h (.inl (some (.int r))) h := by
  refine CT.ofGo (by decide +kernel) rfl (Nat.le_of_ble_eq_true rfl) ?_
  unfold f_T_readDigit at e
  show Go l D ad aC (rmk m_T_readDigit) _ m_T_readDigit 0 [some (.ref a0), none] [] h 0 0
  refine Go.run (pc' := 1) [.aload_n 0] (ls' := [some (.ref a0), none]) (st' := [.ref a0]) (by decide +kernel) rfl rfl ?_
  refine Go.getI fo_T_33 k0 (by decide +kernel) ?_
  refine Go.if_lt (off := 23) (tgt := 27) (by decide +kernel) (by decide) (fun c1 => ?_) (fun c1 => ?_)
  · replace e := ite_t c1 e
    refine Go.run (pc' := 28) [.iconst (-1)] (ls' := [some (.ref a0), none]) (st' := [.int (-1 : Int32)]) (by decide +kernel) rfl rfl ?_
    obtain rfl := Option.some.inj e
    exact Go.iret rfl (by decide) (by decide) (by decide +kernel)
  · replace e := ite_f c1 e
    refine Go.run (pc' := 8) [.aload_n 0] (ls' := [some (.ref a0), none]) (st' := [.ref a0]) (by decide +kernel) rfl rfl ?_
    refine Go.getI fo_T_33 k0 (by decide +kernel) ?_
    refine Go.run (pc' := 12) [.aload_n 0] (ls' := [some (.ref a0), none]) (st' := [.ref a0, .int (h a0 3)]) (by decide +kernel) rfl rfl ?_
    refine Go.getI fo_T_19 k0 (by decide +kernel) ?_
    refine Go.ic_ge (off := 12) (tgt := 27) (by decide +kernel) (by decide) (fun c2 => ?_) (fun c2 => ?_)
    · replace e := ite_t c2 e
      refine Go.run (pc' := 28) [.iconst (-1)] (ls' := [some (.ref a0), none]) (st' := [.int (-1 : Int32)]) (by decide +kernel) rfl rfl ?_
      obtain rfl := Option.some.inj e
      exact Go.iret rfl (by decide) (by decide) (by decide +kernel)
    · replace e := ite_f c2 e
      refine Go.run (pc' := 19) [.aload_n 0] (ls' := [some (.ref a0), none]) (st' := [.ref a0]) (by decide +kernel) rfl rfl ?_
      refine Go.getI fo_T_33 k0 (by decide +kernel) ?_
      refine Go.run (pc' := 24) [.bipush (120)] (ls' := [some (.ref a0), none]) (st' := [.int (120 : Int32), .int (h a0 3)]) (by decide +kernel) rfl rfl ?_
      refine Go.ic_lt (off := 5) (tgt := 29) (by decide +kernel) (by decide) (fun c3 => ?_) (fun c3 => ?_)
      · replace e := ite_t c3 e
        refine Go.run (pc' := 30) [.aload_n 0] (ls' := [some (.ref a0), none]) (st' := [.ref a0]) (by decide +kernel) rfl rfl ?_
        refine Go.getR fo_T_9 k0 (by decide +kernel) ?_
        refine Go.run (pc' := 34) [.aload_n 0] (ls' := [some (.ref a0), none]) (st' := [.ref a0, .ref (fld a0 0)]) (by decide +kernel) rfl rfl ?_
        refine Go.getI fo_T_33 k0 (by decide +kernel) ?_
        obtain ⟨g4, e⟩ := gd_inv e
        refine Go.cald (kf_2_0 k0) (al_2_0 k0) g4 (by decide +kernel) ?_
        refine Go.run (pc' := 42) [.istore_n 1, .iload_n 1, .bipush (48)] (ls' := [some (.ref a0), some (.int (h (fld a0 0) (h a0 3).toNatClampNeg))]) (st' := [.int (48 : Int32), .int (h (fld a0 0) (h a0 3).toNatClampNeg)]) (by decide +kernel) rfl rfl ?_
        refine Go.ic_lt (off := 16) (tgt := 58) (by decide +kernel) (by decide) (fun c5 => ?_) (fun c5 => ?_)
        · replace e := ite_t c5 e
          refine Go.run (pc' := 59) [.iconst (-1)] (ls' := [some (.ref a0), some (.int (h (fld a0 0) (h a0 3).toNatClampNeg))]) (st' := [.int (-1 : Int32)]) (by decide +kernel) rfl rfl ?_
          obtain rfl := Option.some.inj e
          exact Go.iret rfl (by decide) (by decide) (by decide +kernel)
        · replace e := ite_f c5 e
          refine Go.run (pc' := 48) [.iload_n 1, .bipush (57)] (ls' := [some (.ref a0), some (.int (h (fld a0 0) (h a0 3).toNatClampNeg))]) (st' := [.int (57 : Int32), .int (h (fld a0 0) (h a0 3).toNatClampNeg)]) (by decide +kernel) rfl rfl ?_
          refine Go.ic_gt (off := 10) (tgt := 58) (by decide +kernel) (by decide) (fun c6 => ?_) (fun c6 => ?_)
          · replace e := ite_t c6 e
            refine Go.run (pc' := 59) [.iconst (-1)] (ls' := [some (.ref a0), some (.int (h (fld a0 0) (h a0 3).toNatClampNeg))]) (st' := [.int (-1 : Int32)]) (by decide +kernel) rfl rfl ?_
            obtain rfl := Option.some.inj e
            exact Go.iret rfl (by decide) (by decide) (by decide +kernel)
          · replace e := ite_f c6 e
            refine Go.run (pc' := 55) [.iload_n 1, .bipush (48), .isub] (ls' := [some (.ref a0), some (.int (h (fld a0 0) (h a0 3).toNatClampNeg))]) (st' := [.int ((h (fld a0 0) (h a0 3).toNatClampNeg) - (48 : Int32))]) (by decide +kernel) rfl rfl ?_
            refine Go.goto (off := 4) (tgt := 59) (by decide +kernel) (by decide) ?_
            obtain rfl := Option.some.inj e
            exact Go.iret rfl (by decide) (by decide) (by decide +kernel)
      · replace e := ite_f c3 e
        refine Go.run (pc' := 28) [.iconst (-1)] (ls' := [some (.ref a0), none]) (st' := [.int (-1 : Int32)]) (by decide +kernel) rfl rfl ?_
        obtain rfl := Option.some.inj e
        exact Go.iret rfl (by decide) (by decide) (by decide +kernel)
def f_T_readNumber_29 (k6_ : Nat → Int32 → Int32 → Int32 → Int32 → HP → Option (Int32 × HP)) (a0 : Nat) (x2 : Int32) (x3 : Int32) (x4 : Int32) (x5 : Int32) (x6 : Int32) (s0 : Int32) (h : HP) : Option (Int32 × HP) :=
  if x6 = (-1 : Int32) then
    some ((-1 : Int32), h)
  else
    if (((((x4 * (10 : Int32)) + x6) * s0) + s0) - (1 : Int32)) < x2 then
      some ((-1 : Int32), h)
    else
      if (((x4 * (10 : Int32)) + x6) * s0) ≤ x3 then
        (some (hset h a0 3 ((h a0 3) + (1 : Int32)))).bind fun h4 =>
        k6_ a0 x2 x3 ((x4 * (10 : Int32)) + x6) (x5 + (Int32.ofInt (-1))) h4
      else
        some ((-1 : Int32), h)
set_option maxHeartbeats 1000000 in
theorem x_T_readNumber_29 {l : Launch} {D : va_G} {ad : Nat → Nat} {aC : Nat → ClassId} (hf : l.flags = flags0) (hI : Inj ad) {k6_ : Nat → Int32 → Int32 → Int32 → Int32 → HP → Option (Int32 × HP)} (K6_ : ∀ {a0 : Nat} {x2 : Int32} {x3 : Int32} {x4 : Int32} {x5 : Int32} {h : HP} {r : Int32 × HP}, knd a0 = 2 → k6_ a0 x2 x3 x4 x5 h = some r → Go l D ad aC (rmk m_T_readNumber) (QM D ad aC m_T_readNumber (.inl (some (.int r.1))) r.2) m_T_readNumber 6 [some (.ref a0), none, some (.int x2), some (.int x3), some (.int x4), some (.int x5), none, none, none] [] h 0 0) {a0 : Nat} {x2 : Int32} {x3 : Int32} {x4 : Int32} {x5 : Int32} {x6 : Int32} {s0 : Int32} {h : HP} {r : Int32 × HP} (k0 : knd a0 = 2) (e : f_T_readNumber_29 k6_ a0 x2 x3 x4 x5 x6 s0 h = some r) : Go l D ad aC (rmk m_T_readNumber) (QM D ad aC m_T_readNumber (.inl (some (.int r.1))) r.2) m_T_readNumber 29 [some (.ref a0), none, some (.int x2), some (.int x3), some (.int x4), some (.int x5), some (.int x6), none, none] [.int s0] h 0 0 := by
  unfold f_T_readNumber_29 at e
  refine Go.run (pc' := 47) [.istore 7, .iload 4, .bipush (10), .imul, .iload 6, .iadd, .iload 7, .imul, .istore 8, .iload 6, .iconst (-1)] (ls' := [some (.ref a0), none, some (.int x2), some (.int x3), some (.int x4), some (.int x5), some (.int x6), some (.int s0), some (.int (((x4 * (10 : Int32)) + x6) * s0))]) (st' := [.int (-1 : Int32), .int x6]) (by decide +kernel) rfl rfl ?_
  refine Go.ic_eq (off := 20) (tgt := 67) (by decide +kernel) (by decide) (fun c1 => ?_) (fun c1 => ?_)
  · replace e := ite_t c1 e
    refine Go.run (pc' := 68) [.iconst (-1)] (ls' := [some (.ref a0), none, some (.int x2), some (.int x3), some (.int x4), some (.int x5), some (.int x6), some (.int s0), some (.int (((x4 * (10 : Int32)) + x6) * s0))]) (st' := [.int (-1 : Int32)]) (by decide +kernel) rfl rfl ?_
    obtain rfl := Option.some.inj e
    exact Go.iret rfl (by decide) (by decide) (by decide +kernel)
  · replace e := ite_f c1 e
    refine Go.run (pc' := 58) [.iload 8, .iload 7, .iadd, .iconst 1, .isub, .iload_n 2] (ls' := [some (.ref a0), none, some (.int x2), some (.int x3), some (.int x4), some (.int x5), some (.int x6), some (.int s0), some (.int (((x4 * (10 : Int32)) + x6) * s0))]) (st' := [.int x2, .int (((((x4 * (10 : Int32)) + x6) * s0) + s0) - (1 : Int32))]) (by decide +kernel) rfl rfl ?_
    refine Go.ic_lt (off := 9) (tgt := 67) (by decide +kernel) (by decide) (fun c2 => ?_) (fun c2 => ?_)
    · replace e := ite_t c2 e
      refine Go.run (pc' := 68) [.iconst (-1)] (ls' := [some (.ref a0), none, some (.int x2), some (.int x3), some (.int x4), some (.int x5), some (.int x6), some (.int s0), some (.int (((x4 * (10 : Int32)) + x6) * s0))]) (st' := [.int (-1 : Int32)]) (by decide +kernel) rfl rfl ?_
      obtain rfl := Option.some.inj e
      exact Go.iret rfl (by decide) (by decide) (by decide +kernel)
    · replace e := ite_f c2 e
      refine Go.run (pc' := 64) [.iload 8, .iload_n 3] (ls' := [some (.ref a0), none, some (.int x2), some (.int x3), some (.int x4), some (.int x5), some (.int x6), some (.int s0), some (.int (((x4 * (10 : Int32)) + x6) * s0))]) (st' := [.int x3, .int (((x4 * (10 : Int32)) + x6) * s0)]) (by decide +kernel) rfl rfl ?_
      refine Go.ic_le (off := 5) (tgt := 69) (by decide +kernel) (by decide) (fun c3 => ?_) (fun c3 => ?_)
      · replace e := ite_t c3 e
        refine Go.run (pc' := 81) [.iload 4, .bipush (10), .imul, .iload 6, .iadd, .istore 4, .aload_n 0, .dup] (ls' := [some (.ref a0), none, some (.int x2), some (.int x3), some (.int ((x4 * (10 : Int32)) + x6)), some (.int x5), some (.int x6), some (.int s0), some (.int (((x4 * (10 : Int32)) + x6) * s0))]) (st' := [.ref a0, .ref a0]) (by decide +kernel) rfl rfl ?_
        refine Go.getI fo_T_33 k0 (by decide +kernel) ?_
        refine Go.run (pc' := 86) [.iconst 1, .iadd] (ls' := [some (.ref a0), none, some (.int x2), some (.int x3), some (.int ((x4 * (10 : Int32)) + x6)), some (.int x5), some (.int x6), some (.int s0), some (.int (((x4 * (10 : Int32)) + x6) * s0))]) (st' := [.int ((h a0 3) + (1 : Int32)), .ref a0]) (by decide +kernel) rfl rfl ?_
        refine Go.put hI po_T_33 k0 (nar_i _) (fit_i _) (by decide +kernel) ?_
        obtain ⟨h4, q5, e⟩ := bd_inv e
        refine Go.eqH (Option.some.inj q5) ?_
        refine Go.run (pc' := 92) [.iinc 5 (-1)] (ls' := [some (.ref a0), none, some (.int x2), some (.int x3), some (.int ((x4 * (10 : Int32)) + x6)), some (.int (x5 + (Int32.ofInt (-1)))), some (.int x6), some (.int s0), some (.int (((x4 * (10 : Int32)) + x6) * s0))]) (st' := []) (by decide +kernel) rfl rfl ?_
        refine Go.goto (off := -86) (tgt := 6) (by decide +kernel) (by decide) ?_
        refine Go.wk' (wks (wks (wks (wks (wks (wks (wkn (wkn (wkn wk0))))))))) ?_
        exact K6_ k0 e
      · replace e := ite_f c3 e
        refine Go.run (pc' := 68) [.iconst (-1)] (ls' := [some (.ref a0), none, some (.int x2), some (.int x3), some (.int x4), some (.int x5), some (.int x6), some (.int s0), some (.int (((x4 * (10 : Int32)) + x6) * s0))]) (st' := [.int (-1 : Int32)]) (by decide +kernel) rfl rfl ?_
        obtain rfl := Option.some.inj e
        exact Go.iret rfl (by decide) (by decide) (by decide +kernel)
def f_T_readNumber_6  : Nat → Nat → Int32 → Int32 → Int32 → Int32 → HP → Option (Int32 × HP)
  | 0, _, _, _, _, _, _ => none
  | n + 1, a0, x2, x3, x4, x5, h =>
    if x5 ≤ 0 then
      some (x4, h)
    else
      (f_T_readDigit h a0).bind fun v2 =>
      if x5 = (2 : Int32) then
        f_T_readNumber_29 (f_T_readNumber_6 n) a0 x2 x3 x4 x5 v2 (10 : Int32) h
      else
        f_T_readNumber_29 (f_T_readNumber_6 n) a0 x2 x3 x4 x5 v2 (1 : Int32) h
set_option maxHeartbeats 1000000 in
theorem x_T_readNumber_6 {l : Launch} {D : va_G} {ad : Nat → Nat} {aC : Nat → ClassId} (hf : l.flags = flags0) (hI : Inj ad) : ∀ (n : Nat) {a0 : Nat} {x2 : Int32} {x3 : Int32} {x4 : Int32} {x5 : Int32} {h : HP} {r : Int32 × HP}, knd a0 = 2 → f_T_readNumber_6 n a0 x2 x3 x4 x5 h = some r → Go l D ad aC (rmk m_T_readNumber) (QM D ad aC m_T_readNumber (.inl (some (.int r.1))) r.2) m_T_readNumber 6 [some (.ref a0), none, some (.int x2), some (.int x3), some (.int x4), some (.int x5), none, none, none] [] h 0 0 := by
  intro n
  induction n with
  | zero => intro a0 x2 x3 x4 x5 h r k0 e; exact no_none e
  | succ n ih =>
    intro a0 x2 x3 x4 x5 h r k0 e
    rw [f_T_readNumber_6] at e
    refine Go.run (pc' := 8) [.iload 5] (ls' := [some (.ref a0), none, some (.int x2), some (.int x3), some (.int x4), some (.int x5), none, none, none]) (st' := [.int x5]) (by decide +kernel) rfl rfl ?_
    refine Go.if_le (off := 87) (tgt := 95) (by decide +kernel) (by decide) (fun c1 => ?_) (fun c1 => ?_)
    · replace e := ite_t c1 e
      refine Go.run (pc' := 97) [.iload 4] (ls' := [some (.ref a0), none, some (.int x2), some (.int x3), some (.int x4), some (.int x5), none, none, none]) (st' := [.int x4]) (by decide +kernel) rfl rfl ?_
      obtain rfl := Option.some.inj e
      exact Go.iret rfl (by decide) (by decide) (by decide +kernel)
    · replace e := ite_f c1 e
      refine Go.run (pc' := 12) [.aload_n 0] (ls' := [some (.ref a0), none, some (.int x2), some (.int x3), some (.int x4), some (.int x5), none, none, none]) (st' := [.ref a0]) (by decide +kernel) rfl rfl ?_
      obtain ⟨v2, e3, e⟩ := bd_inv e
      refine Go.callV (M2 := m_T_readDigit) (a := a0) (as := []) (rest := []) (v := some (.int v2)) (h1 := h) (x_T_readDigit hf hI k0 e3) wv_T_55 k0 kc_2 (by decide +kernel) rfl rfl ⟨⟨Nat.le_of_ble_eq_true rfl, Nat.le_of_ble_eq_true rfl⟩, ⟨Nat.le_of_ble_eq_true rfl, Nat.le_of_ble_eq_true rfl⟩⟩ (Nat.le_of_ble_eq_true rfl) ?_
      show Go l D ad aC (rmk m_T_readNumber) _ m_T_readNumber 15 [some (.ref a0), none, some (.int x2), some (.int x3), some (.int x4), some (.int x5), none, none, none] [.int v2] h 0 0
      refine Go.run (pc' := 20) [.istore 6, .iload 5, .iconst 2] (ls' := [some (.ref a0), none, some (.int x2), some (.int x3), some (.int x4), some (.int x5), some (.int v2), none, none]) (st' := [.int (2 : Int32), .int x5]) (by decide +kernel) rfl rfl ?_
      refine Go.ic_ne (off := 8) (tgt := 28) (by decide +kernel) (by decide) (fun c4 => ?_) (fun c4 => ?_)
      · replace e := ite_f c4 e
        refine Go.run (pc' := 29) [.iconst 1] (ls' := [some (.ref a0), none, some (.int x2), some (.int x3), some (.int x4), some (.int x5), some (.int v2), none, none]) (st' := [.int (1 : Int32)]) (by decide +kernel) rfl rfl ?_
        exact x_T_readNumber_29 hf hI (fun kk0 e => ih kk0 e) k0 e
      · replace e := ite_t c4 e
        refine Go.run (pc' := 25) [.bipush (10)] (ls' := [some (.ref a0), none, some (.int x2), some (.int x3), some (.int x4), some (.int x5), some (.int v2), none, none]) (st' := [.int (10 : Int32)]) (by decide +kernel) rfl rfl ?_
        refine Go.goto (off := 4) (tgt := 29) (by decide +kernel) (by decide) ?_
        exact x_T_readNumber_29 hf hI (fun kk0 e => ih kk0 e) k0 e
def f_T_readNumber (h : HP) (a0 : Nat) (x1 : Int32) (x2 : Int32) (x3 : Int32) : Option (Int32 × HP) :=
  f_T_readNumber_6 4096 a0 x2 x3 (0 : Int32) x1 h
set_option maxHeartbeats 1000000 in
theorem x_T_readNumber {l : Launch} {D : va_G} {ad : Nat → Nat} {aC : Nat → ClassId} (hf : l.flags = flags0) (hI : Inj ad) {h : HP} {a0 : Nat} {x1 : Int32} {x2 : Int32} {x3 : Int32} {r : Int32 × HP} (k0 : knd a0 = 2) (e : f_T_readNumber h a0 x1 x2 x3 = some r) : CT l D ad aC m_T_readNumber [.ref a0, .int x1, .int x2, .int x3] h (.inl (some (.int r.1))) r.2 := by
  refine CT.ofGo (by decide +kernel) rfl (Nat.le_of_ble_eq_true rfl) ?_
  unfold f_T_readNumber at e
  show Go l D ad aC (rmk m_T_readNumber) _ m_T_readNumber 0 [some (.ref a0), some (.int x1), some (.int x2), some (.int x3), none, none, none, none, none] [] h 0 0
  refine Go.run (pc' := 6) [.iconst 0, .istore 4, .iload_n 1, .istore 5] (ls' := [some (.ref a0), some (.int x1), some (.int x2), some (.int x3), some (.int (0 : Int32)), some (.int x1), none, none, none]) (st' := []) (by decide +kernel) rfl rfl ?_
  refine Go.wk' (wks (wkn (wks (wks (wks (wks (wks (wks (wks wk0))))))))) ?_
  exact x_T_readNumber_6 hf hI 4096 k0 e
def f_T_readCommand_75  : Nat → Nat → Int32 → Int32 → HP → Option (Int32 × HP)
  | 0, _, _, _, _ => none
  | n + 1, a0, x1, x2, h =>
    if (3 : Int32) ≤ x2 then
      some ((1 : Int32), h)
    else
      if ((((x1 * (3 : Int32)) + x2) * (3 : Int32)) + (2 : Int32)) < (72 : Int32) then
        if ib (((x1 * (3 : Int32)) + x2) * (3 : Int32)) 72 = true then
        if ib ((((x1 * (3 : Int32)) + x2) * (3 : Int32)) + (1 : Int32)) 72 = true then
        if ib ((((x1 * (3 : Int32)) + x2) * (3 : Int32)) + (2 : Int32)) 72 = true then
        (f_T_readNumber h a0 (sarr 214 (((x1 * (3 : Int32)) + x2) * (3 : Int32)).toNatClampNeg) (sarr 214 ((((x1 * (3 : Int32)) + x2) * (3 : Int32)) + (1 : Int32)).toNatClampNeg) (sarr 214 ((((x1 * (3 : Int32)) + x2) * (3 : Int32)) + (2 : Int32)).toNatClampNeg)).bind fun v6 =>
        if ib x2 3 = true then
        (some (hset v6.2 (fld a0 1) x2.toNatClampNeg v6.1)).bind fun h9 =>
        if ib x2 3 = true then
        if (h9 (fld a0 1) x2.toNatClampNeg) = (-1 : Int32) then
          some ((0 : Int32), h9)
        else
          f_T_readCommand_75 n a0 x1 (x2 + (1 : Int32)) h9
        else none
        else none
        else none
        else none
        else none
      else
        some ((0 : Int32), h)
set_option maxHeartbeats 1000000 in
theorem x_T_readCommand_75 {l : Launch} {D : va_G} {ad : Nat → Nat} {aC : Nat → ClassId} (hf : l.flags = flags0) (hI : Inj ad) : ∀ (n : Nat) {a0 : Nat} {x1 : Int32} {x2 : Int32} {h : HP} {r : Int32 × HP}, knd a0 = 2 → f_T_readCommand_75 n a0 x1 x2 h = some r → Go l D ad aC (rmk m_T_readCommand) (QM D ad aC m_T_readCommand (.inl (some (.int r.1))) r.2) m_T_readCommand 75 [some (.ref a0), some (.int x1), some (.int x2), none] [] h 0 0 := by
  intro n
  induction n with
  | zero => intro a0 x1 x2 h r k0 e; exact no_none e
  | succ n ih =>
    intro a0 x1 x2 h r k0 e
    rw [f_T_readCommand_75] at e
    refine Go.run (pc' := 77) [.iload_n 2, .iconst 3] (ls' := [some (.ref a0), some (.int x1), some (.int x2), none]) (st' := [.int (3 : Int32), .int x2]) (by decide +kernel) rfl rfl ?_
    refine Go.ic_ge (off := 70) (tgt := 147) (by decide +kernel) (by decide) (fun c1 => ?_) (fun c1 => ?_)
    · replace e := ite_t c1 e
      refine Go.run (pc' := 148) [.iconst 1] (ls' := [some (.ref a0), some (.int x1), some (.int x2), none]) (st' := [.int (1 : Int32)]) (by decide +kernel) rfl rfl ?_
      obtain rfl := Option.some.inj e
      exact Go.zret rfl nar_z1 (by decide) (by decide) (by decide +kernel)
    · replace e := ite_f c1 e
      refine Go.run (pc' := 91) [.iload_n 1, .iconst 3, .imul, .iload_n 2, .iadd, .iconst 3, .imul, .istore_n 3, .iload_n 3, .iconst 2, .iadd] (ls' := [some (.ref a0), some (.int x1), some (.int x2), some (.int (((x1 * (3 : Int32)) + x2) * (3 : Int32)))]) (st' := [.int ((((x1 * (3 : Int32)) + x2) * (3 : Int32)) + (2 : Int32))]) (by decide +kernel) rfl rfl ?_
      refine Go.gets so_T_48 (by decide +kernel) ?_
      refine Go.slen (v := 72) (by decide) (by decide) rfl (by decide +kernel) ?_
      refine Go.ic_lt (off := 5) (tgt := 100) (by decide +kernel) (by decide) (fun c2 => ?_) (fun c2 => ?_)
      · replace e := ite_t c2 e
        refine Go.run (pc' := 101) [.aload_n 0] (ls' := [some (.ref a0), some (.int x1), some (.int x2), some (.int (((x1 * (3 : Int32)) + x2) * (3 : Int32)))]) (st' := [.ref a0]) (by decide +kernel) rfl rfl ?_
        refine Go.getR fo_T_15 k0 (by decide +kernel) ?_
        refine Go.run (pc' := 106) [.iload_n 2, .aload_n 0] (ls' := [some (.ref a0), some (.int x1), some (.int x2), some (.int (((x1 * (3 : Int32)) + x2) * (3 : Int32)))]) (st' := [.ref a0, .int x2, .ref (fld a0 1)]) (by decide +kernel) rfl rfl ?_
        refine Go.gets so_T_48 (by decide +kernel) ?_
        refine Go.run (pc' := 110) [.iload_n 3] (ls' := [some (.ref a0), some (.int x1), some (.int x2), some (.int (((x1 * (3 : Int32)) + x2) * (3 : Int32)))]) (st' := [.int (((x1 * (3 : Int32)) + x2) * (3 : Int32)), .ref 214, .ref a0, .int x2, .ref (fld a0 1)]) (by decide +kernel) rfl rfl ?_
        obtain ⟨g3, e⟩ := gd_inv e
        refine Go.sald (N := 72) (by decide) (by decide) rfl g3 (by decide +kernel) ?_
        refine Go.gets so_T_48 (by decide +kernel) ?_
        refine Go.run (pc' := 117) [.iload_n 3, .iconst 1, .iadd] (ls' := [some (.ref a0), some (.int x1), some (.int x2), some (.int (((x1 * (3 : Int32)) + x2) * (3 : Int32)))]) (st' := [.int ((((x1 * (3 : Int32)) + x2) * (3 : Int32)) + (1 : Int32)), .ref 214, .int (sarr 214 (((x1 * (3 : Int32)) + x2) * (3 : Int32)).toNatClampNeg), .ref a0, .int x2, .ref (fld a0 1)]) (by decide +kernel) rfl rfl ?_
        obtain ⟨g4, e⟩ := gd_inv e
        refine Go.sald (N := 72) (by decide) (by decide) rfl g4 (by decide +kernel) ?_
        refine Go.gets so_T_48 (by decide +kernel) ?_
        refine Go.run (pc' := 124) [.iload_n 3, .iconst 2, .iadd] (ls' := [some (.ref a0), some (.int x1), some (.int x2), some (.int (((x1 * (3 : Int32)) + x2) * (3 : Int32)))]) (st' := [.int ((((x1 * (3 : Int32)) + x2) * (3 : Int32)) + (2 : Int32)), .ref 214, .int (sarr 214 ((((x1 * (3 : Int32)) + x2) * (3 : Int32)) + (1 : Int32)).toNatClampNeg), .int (sarr 214 (((x1 * (3 : Int32)) + x2) * (3 : Int32)).toNatClampNeg), .ref a0, .int x2, .ref (fld a0 1)]) (by decide +kernel) rfl rfl ?_
        obtain ⟨g5, e⟩ := gd_inv e
        refine Go.sald (N := 72) (by decide) (by decide) rfl g5 (by decide +kernel) ?_
        obtain ⟨v6, e7, e⟩ := bd_inv e
        refine Go.callV (M2 := m_T_readNumber) (a := a0) (as := [.int (sarr 214 (((x1 * (3 : Int32)) + x2) * (3 : Int32)).toNatClampNeg), .int (sarr 214 ((((x1 * (3 : Int32)) + x2) * (3 : Int32)) + (1 : Int32)).toNatClampNeg), .int (sarr 214 ((((x1 * (3 : Int32)) + x2) * (3 : Int32)) + (2 : Int32)).toNatClampNeg)]) (rest := [.int x2, .ref (fld a0 1)]) (v := some (.int v6.1)) (h1 := v6.2) (x_T_readNumber hf hI k0 e7) wv_T_51 k0 kc_2 (by decide +kernel) rfl rfl ⟨⟨Nat.le_of_ble_eq_true rfl, Nat.le_of_ble_eq_true rfl⟩, ⟨Nat.le_of_ble_eq_true rfl, Nat.le_of_ble_eq_true rfl⟩⟩ (Nat.le_of_ble_eq_true rfl) ?_
        show Go l D ad aC (rmk m_T_readCommand) _ m_T_readCommand 128 [some (.ref a0), some (.int x1), some (.int x2), some (.int (((x1 * (3 : Int32)) + x2) * (3 : Int32)))] [.int v6.1, .int x2, .ref (fld a0 1)] v6.2 0 0
        obtain ⟨g8, e⟩ := gd_inv e
        refine Go.iast hI (kf_2_1 k0) (al_2_1 k0) g8 (by decide +kernel) ?_
        obtain ⟨h9, q10, e⟩ := bd_inv e
        refine Go.eqH (Option.some.inj q10) ?_
        refine Go.run (pc' := 130) [.aload_n 0] (ls' := [some (.ref a0), some (.int x1), some (.int x2), some (.int (((x1 * (3 : Int32)) + x2) * (3 : Int32)))]) (st' := [.ref a0]) (by decide +kernel) rfl rfl ?_
        refine Go.getR fo_T_15 k0 (by decide +kernel) ?_
        refine Go.run (pc' := 134) [.iload_n 2] (ls' := [some (.ref a0), some (.int x1), some (.int x2), some (.int (((x1 * (3 : Int32)) + x2) * (3 : Int32)))]) (st' := [.int x2, .ref (fld a0 1)]) (by decide +kernel) rfl rfl ?_
        obtain ⟨g11, e⟩ := gd_inv e
        refine Go.iald (kf_2_1 k0) (al_2_1 k0) g11 (by decide +kernel) ?_
        refine Go.run (pc' := 136) [.iconst (-1)] (ls' := [some (.ref a0), some (.int x1), some (.int x2), some (.int (((x1 * (3 : Int32)) + x2) * (3 : Int32)))]) (st' := [.int (-1 : Int32), .int (h9 (fld a0 1) x2.toNatClampNeg)]) (by decide +kernel) rfl rfl ?_
        refine Go.ic_ne (off := 5) (tgt := 141) (by decide +kernel) (by decide) (fun c12 => ?_) (fun c12 => ?_)
        · replace e := ite_f c12 e
          refine Go.run (pc' := 144) [.iinc 2 (1)] (ls' := [some (.ref a0), some (.int x1), some (.int (x2 + (1 : Int32))), some (.int (((x1 * (3 : Int32)) + x2) * (3 : Int32)))]) (st' := []) (by decide +kernel) rfl rfl ?_
          refine Go.goto (off := -69) (tgt := 75) (by decide +kernel) (by decide) ?_
          refine Go.wk' (wks (wks (wks (wkn wk0)))) ?_
          exact ih k0 e
        · replace e := ite_t c12 e
          refine Go.run (pc' := 140) [.iconst 0] (ls' := [some (.ref a0), some (.int x1), some (.int x2), some (.int (((x1 * (3 : Int32)) + x2) * (3 : Int32)))]) (st' := [.int (0 : Int32)]) (by decide +kernel) rfl rfl ?_
          obtain rfl := Option.some.inj e
          exact Go.zret rfl nar_z0 (by decide) (by decide) (by decide +kernel)
      · replace e := ite_f c2 e
        refine Go.run (pc' := 99) [.iconst 0] (ls' := [some (.ref a0), some (.int x1), some (.int x2), some (.int (((x1 * (3 : Int32)) + x2) * (3 : Int32)))]) (st' := [.int (0 : Int32)]) (by decide +kernel) rfl rfl ?_
        obtain rfl := Option.some.inj e
        exact Go.zret rfl nar_z0 (by decide) (by decide) (by decide +kernel)
def f_T_readCommand (h : HP) (a0 : Nat) : Option (Int32 × HP) :=
  if (h a0 3) < 0 then
    some ((0 : Int32), h)
  else
    if (h a0 2) ≤ (h a0 3) then
      some ((0 : Int32), h)
    else
      if (h a0 3) < (120 : Int32) then
        if ib (h a0 3) 120 = true then
        if 0 ≤ (lix (h (fld a0 0) (h a0 3).toNatClampNeg)) then
          if ib (h a0 3) 120 = true then
          (some (hset h a0 4 (h (fld a0 0) (h a0 3).toNatClampNeg))).bind fun h9 =>
          (some (hset h9 a0 3 ((h9 a0 3) + (1 : Int32)))).bind fun h11 =>
          f_T_readCommand_75 4096 a0 (lix (h (fld a0 0) (h a0 3).toNatClampNeg)) (0 : Int32) h11
          else none
        else
          some ((0 : Int32), h)
        else none
      else
        some ((0 : Int32), h)
set_option maxHeartbeats 1000000 in
theorem x_T_readCommand {l : Launch} {D : va_G} {ad : Nat → Nat} {aC : Nat → ClassId} (hf : l.flags = flags0) (hI : Inj ad) {h : HP} {a0 : Nat} {r : Int32 × HP} (k0 : knd a0 = 2) (e : f_T_readCommand h a0 = some r) : CT l D ad aC m_T_readCommand [.ref a0] h (.inl (some (.int r.1))) r.2 := by
  refine CT.ofGo (by decide +kernel) rfl (Nat.le_of_ble_eq_true rfl) ?_
  unfold f_T_readCommand at e
  show Go l D ad aC (rmk m_T_readCommand) _ m_T_readCommand 0 [some (.ref a0), none, none, none] [] h 0 0
  refine Go.run (pc' := 1) [.aload_n 0] (ls' := [some (.ref a0), none, none, none]) (st' := [.ref a0]) (by decide +kernel) rfl rfl ?_
  refine Go.getI fo_T_33 k0 (by decide +kernel) ?_
  refine Go.if_lt (off := 23) (tgt := 27) (by decide +kernel) (by decide) (fun c1 => ?_) (fun c1 => ?_)
  · replace e := ite_t c1 e
    refine Go.run (pc' := 28) [.iconst 0] (ls' := [some (.ref a0), none, none, none]) (st' := [.int (0 : Int32)]) (by decide +kernel) rfl rfl ?_
    obtain rfl := Option.some.inj e
    exact Go.zret rfl nar_z0 (by decide) (by decide) (by decide +kernel)
  · replace e := ite_f c1 e
    refine Go.run (pc' := 8) [.aload_n 0] (ls' := [some (.ref a0), none, none, none]) (st' := [.ref a0]) (by decide +kernel) rfl rfl ?_
    refine Go.getI fo_T_33 k0 (by decide +kernel) ?_
    refine Go.run (pc' := 12) [.aload_n 0] (ls' := [some (.ref a0), none, none, none]) (st' := [.ref a0, .int (h a0 3)]) (by decide +kernel) rfl rfl ?_
    refine Go.getI fo_T_19 k0 (by decide +kernel) ?_
    refine Go.ic_ge (off := 12) (tgt := 27) (by decide +kernel) (by decide) (fun c2 => ?_) (fun c2 => ?_)
    · replace e := ite_t c2 e
      refine Go.run (pc' := 28) [.iconst 0] (ls' := [some (.ref a0), none, none, none]) (st' := [.int (0 : Int32)]) (by decide +kernel) rfl rfl ?_
      obtain rfl := Option.some.inj e
      exact Go.zret rfl nar_z0 (by decide) (by decide) (by decide +kernel)
    · replace e := ite_f c2 e
      refine Go.run (pc' := 19) [.aload_n 0] (ls' := [some (.ref a0), none, none, none]) (st' := [.ref a0]) (by decide +kernel) rfl rfl ?_
      refine Go.getI fo_T_33 k0 (by decide +kernel) ?_
      refine Go.run (pc' := 24) [.bipush (120)] (ls' := [some (.ref a0), none, none, none]) (st' := [.int (120 : Int32), .int (h a0 3)]) (by decide +kernel) rfl rfl ?_
      refine Go.ic_lt (off := 5) (tgt := 29) (by decide +kernel) (by decide) (fun c3 => ?_) (fun c3 => ?_)
      · replace e := ite_t c3 e
        refine Go.ldcS rfl (by decide +kernel) ?_
        refine Go.run (pc' := 32) [.aload_n 0] (ls' := [some (.ref a0), none, none, none]) (st' := [.ref a0, .ref 215]) (by decide +kernel) rfl rfl ?_
        refine Go.getR fo_T_9 k0 (by decide +kernel) ?_
        refine Go.run (pc' := 36) [.aload_n 0] (ls' := [some (.ref a0), none, none, none]) (st' := [.ref a0, .ref (fld a0 0), .ref 215]) (by decide +kernel) rfl rfl ?_
        refine Go.getI fo_T_33 k0 (by decide +kernel) ?_
        obtain ⟨g4, e⟩ := gd_inv e
        refine Go.cald (kf_2_0 k0) (al_2_0 k0) g4 (by decide +kernel) ?_
        refine goCallIx rfl (by decide +kernel) ⟨⟨Nat.le_of_ble_eq_true rfl, Nat.le_of_ble_eq_true rfl⟩, ⟨Nat.le_of_ble_eq_true rfl, Nat.le_of_ble_eq_true rfl⟩⟩ (Nat.le_of_ble_eq_true rfl) ?_
        show Go l D ad aC (rmk m_T_readCommand) _ m_T_readCommand 43 [some (.ref a0), none, none, none] [.int (lix (h (fld a0 0) (h a0 3).toNatClampNeg))] h 0 0
        refine Go.run (pc' := 45) [.istore_n 1, .iload_n 1] (ls' := [some (.ref a0), some (.int (lix (h (fld a0 0) (h a0 3).toNatClampNeg))), none, none]) (st' := [.int (lix (h (fld a0 0) (h a0 3).toNatClampNeg))]) (by decide +kernel) rfl rfl ?_
        refine Go.if_ge (off := 5) (tgt := 50) (by decide +kernel) (by decide) (fun c7 => ?_) (fun c7 => ?_)
        · replace e := ite_t c7 e
          refine Go.run (pc' := 52) [.aload_n 0, .aload_n 0] (ls' := [some (.ref a0), some (.int (lix (h (fld a0 0) (h a0 3).toNatClampNeg))), none, none]) (st' := [.ref a0, .ref a0]) (by decide +kernel) rfl rfl ?_
          refine Go.getR fo_T_9 k0 (by decide +kernel) ?_
          refine Go.run (pc' := 56) [.aload_n 0] (ls' := [some (.ref a0), some (.int (lix (h (fld a0 0) (h a0 3).toNatClampNeg))), none, none]) (st' := [.ref a0, .ref (fld a0 0), .ref a0]) (by decide +kernel) rfl rfl ?_
          refine Go.getI fo_T_33 k0 (by decide +kernel) ?_
          obtain ⟨g8, e⟩ := gd_inv e
          refine Go.cald (kf_2_0 k0) (al_2_0 k0) g8 (by decide +kernel) ?_
          refine Go.put hI po_T_23 k0 (nar_i _) (fit_i _) (by decide +kernel) ?_
          obtain ⟨h9, q10, e⟩ := bd_inv e
          refine Go.eqH (Option.some.inj q10) ?_
          refine Go.run (pc' := 65) [.aload_n 0, .dup] (ls' := [some (.ref a0), some (.int (lix (h (fld a0 0) (h a0 3).toNatClampNeg))), none, none]) (st' := [.ref a0, .ref a0]) (by decide +kernel) rfl rfl ?_
          refine Go.getI fo_T_33 k0 (by decide +kernel) ?_
          refine Go.run (pc' := 70) [.iconst 1, .iadd] (ls' := [some (.ref a0), some (.int (lix (h (fld a0 0) (h a0 3).toNatClampNeg))), none, none]) (st' := [.int ((h9 a0 3) + (1 : Int32)), .ref a0]) (by decide +kernel) rfl rfl ?_
          refine Go.put hI po_T_33 k0 (nar_i _) (fit_i _) (by decide +kernel) ?_
          obtain ⟨h11, q12, e⟩ := bd_inv e
          refine Go.eqH (Option.some.inj q12) ?_
          refine Go.run (pc' := 75) [.iconst 0, .istore_n 2] (ls' := [some (.ref a0), some (.int (lix (h (fld a0 0) (h a0 3).toNatClampNeg))), some (.int (0 : Int32)), none]) (st' := []) (by decide +kernel) rfl rfl ?_
          exact x_T_readCommand_75 hf hI 4096 k0 e
        · replace e := ite_f c7 e
          refine Go.run (pc' := 49) [.iconst 0] (ls' := [some (.ref a0), some (.int (lix (h (fld a0 0) (h a0 3).toNatClampNeg))), none, none]) (st' := [.int (0 : Int32)]) (by decide +kernel) rfl rfl ?_
          obtain rfl := Option.some.inj e
          exact Go.zret rfl nar_z0 (by decide) (by decide) (by decide +kernel)
      · replace e := ite_f c3 e
        refine Go.run (pc' := 28) [.iconst 0] (ls' := [some (.ref a0), none, none, none]) (st' := [.int (0 : Int32)]) (by decide +kernel) rfl rfl ?_
        obtain rfl := Option.some.inj e
        exact Go.zret rfl nar_z0 (by decide) (by decide) (by decide +kernel)
def f_T_firstError_26  : Nat → Nat → Int32 → HP → Option (Int32 × HP)
  | 0, _, _, _ => none
  | n + 1, a0, x1, h =>
    if (120 : Int32) ≤ x1 then
      some ((-1 : Int32), h)
    else
      if (h a0 2) ≤ (h a0 3) then
        some ((-1 : Int32), h)
      else
        (f_T_readCommand h a0).bind fun v3 =>
        if v3.1 = 0 then
          some (v3.2 a0 3, v3.2)
        else
          f_T_firstError_26 n a0 (x1 + (1 : Int32)) v3.2
set_option maxHeartbeats 1000000 in
theorem x_T_firstError_26 {l : Launch} {D : va_G} {ad : Nat → Nat} {aC : Nat → ClassId} (hf : l.flags = flags0) (hI : Inj ad) : ∀ (n : Nat) {a0 : Nat} {x1 : Int32} {h : HP} {r : Int32 × HP}, knd a0 = 2 → f_T_firstError_26 n a0 x1 h = some r → Go l D ad aC (rmk m_T_firstError) (QM D ad aC m_T_firstError (.inl (some (.int r.1))) r.2) m_T_firstError 26 [some (.ref a0), some (.int x1)] [] h 0 0 := by
  intro n
  induction n with
  | zero => intro a0 x1 h r k0 e; exact no_none e
  | succ n ih =>
    intro a0 x1 h r k0 e
    rw [f_T_firstError_26] at e
    refine Go.run (pc' := 29) [.iload_n 1, .bipush (120)] (ls' := [some (.ref a0), some (.int x1)]) (st' := [.int (120 : Int32), .int x1]) (by decide +kernel) rfl rfl ?_
    refine Go.ic_ge (off := 32) (tgt := 61) (by decide +kernel) (by decide) (fun c1 => ?_) (fun c1 => ?_)
    · replace e := ite_t c1 e
      refine Go.run (pc' := 62) [.iconst (-1)] (ls' := [some (.ref a0), some (.int x1)]) (st' := [.int (-1 : Int32)]) (by decide +kernel) rfl rfl ?_
      obtain rfl := Option.some.inj e
      exact Go.iret rfl (by decide) (by decide) (by decide +kernel)
    · replace e := ite_f c1 e
      refine Go.run (pc' := 33) [.aload_n 0] (ls' := [some (.ref a0), some (.int x1)]) (st' := [.ref a0]) (by decide +kernel) rfl rfl ?_
      refine Go.getI fo_T_33 k0 (by decide +kernel) ?_
      refine Go.run (pc' := 37) [.aload_n 0] (ls' := [some (.ref a0), some (.int x1)]) (st' := [.ref a0, .int (h a0 3)]) (by decide +kernel) rfl rfl ?_
      refine Go.getI fo_T_19 k0 (by decide +kernel) ?_
      refine Go.ic_ge (off := 21) (tgt := 61) (by decide +kernel) (by decide) (fun c2 => ?_) (fun c2 => ?_)
      · replace e := ite_t c2 e
        refine Go.run (pc' := 62) [.iconst (-1)] (ls' := [some (.ref a0), some (.int x1)]) (st' := [.int (-1 : Int32)]) (by decide +kernel) rfl rfl ?_
        obtain rfl := Option.some.inj e
        exact Go.iret rfl (by decide) (by decide) (by decide +kernel)
      · replace e := ite_f c2 e
        refine Go.run (pc' := 44) [.aload_n 0] (ls' := [some (.ref a0), some (.int x1)]) (st' := [.ref a0]) (by decide +kernel) rfl rfl ?_
        obtain ⟨v3, e4, e⟩ := bd_inv e
        refine Go.callV (M2 := m_T_readCommand) (a := a0) (as := []) (rest := []) (v := some (.int v3.1)) (h1 := v3.2) (x_T_readCommand hf hI k0 e4) wv_T_36 k0 kc_2 (by decide +kernel) rfl rfl ⟨⟨Nat.le_of_ble_eq_true rfl, Nat.le_of_ble_eq_true rfl⟩, ⟨Nat.le_of_ble_eq_true rfl, Nat.le_of_ble_eq_true rfl⟩⟩ (Nat.le_of_ble_eq_true rfl) ?_
        show Go l D ad aC (rmk m_T_firstError) _ m_T_firstError 47 [some (.ref a0), some (.int x1)] [.int v3.1] v3.2 0 0
        refine Go.if_ne (off := 8) (tgt := 55) (by decide +kernel) (by decide) (fun c5 => ?_) (fun c5 => ?_)
        · replace e := ite_f c5 e
          refine Go.run (pc' := 58) [.iinc 1 (1)] (ls' := [some (.ref a0), some (.int (x1 + (1 : Int32)))]) (st' := []) (by decide +kernel) rfl rfl ?_
          refine Go.goto (off := -32) (tgt := 26) (by decide +kernel) (by decide) ?_
          exact ih k0 e
        · replace e := ite_t c5 e
          refine Go.run (pc' := 51) [.aload_n 0] (ls' := [some (.ref a0), some (.int x1)]) (st' := [.ref a0]) (by decide +kernel) rfl rfl ?_
          refine Go.getI fo_T_33 k0 (by decide +kernel) ?_
          obtain rfl := Option.some.inj e
          exact Go.iret rfl (by decide) (by decide) (by decide +kernel)
def f_T_firstError (h : HP) (a0 : Nat) : Option (Int32 × HP) :=
  if (h a0 2) = 0 then
    some ((0 : Int32), h)
  else
    if ib (0 : Int32) 120 = true then
    if (h (fld a0 0) (0 : Int32).toNatClampNeg) = (65 : Int32) then
      (f_T_goToCommands h a0).bind fun v4 =>
      f_T_firstError_26 4096 a0 (0 : Int32) v4
    else
      some ((0 : Int32), h)
    else none
set_option maxHeartbeats 1000000 in
theorem x_T_firstError {l : Launch} {D : va_G} {ad : Nat → Nat} {aC : Nat → ClassId} (hf : l.flags = flags0) (hI : Inj ad) {h : HP} {a0 : Nat} {r : Int32 × HP} (k0 : knd a0 = 2) (e : f_T_firstError h a0 = some r) : CT l D ad aC m_T_firstError [.ref a0] h (.inl (some (.int r.1))) r.2 := by
  refine CT.ofGo (by decide +kernel) rfl (Nat.le_of_ble_eq_true rfl) ?_
  unfold f_T_firstError at e
  show Go l D ad aC (rmk m_T_firstError) _ m_T_firstError 0 [some (.ref a0), none] [] h 0 0
  refine Go.run (pc' := 1) [.aload_n 0] (ls' := [some (.ref a0), none]) (st' := [.ref a0]) (by decide +kernel) rfl rfl ?_
  refine Go.getI fo_T_19 k0 (by decide +kernel) ?_
  refine Go.if_eq (off := 14) (tgt := 18) (by decide +kernel) (by decide) (fun c1 => ?_) (fun c1 => ?_)
  · replace e := ite_t c1 e
    refine Go.run (pc' := 19) [.iconst 0] (ls' := [some (.ref a0), none]) (st' := [.int (0 : Int32)]) (by decide +kernel) rfl rfl ?_
    obtain rfl := Option.some.inj e
    exact Go.iret rfl (by decide) (by decide) (by decide +kernel)
  · replace e := ite_f c1 e
    refine Go.run (pc' := 8) [.aload_n 0] (ls' := [some (.ref a0), none]) (st' := [.ref a0]) (by decide +kernel) rfl rfl ?_
    refine Go.getR fo_T_9 k0 (by decide +kernel) ?_
    refine Go.run (pc' := 12) [.iconst 0] (ls' := [some (.ref a0), none]) (st' := [.int (0 : Int32), .ref (fld a0 0)]) (by decide +kernel) rfl rfl ?_
    obtain ⟨g2, e⟩ := gd_inv e
    refine Go.cald (kf_2_0 k0) (al_2_0 k0) g2 (by decide +kernel) ?_
    refine Go.run (pc' := 15) [.bipush (65)] (ls' := [some (.ref a0), none]) (st' := [.int (65 : Int32), .int (h (fld a0 0) (0 : Int32).toNatClampNeg)]) (by decide +kernel) rfl rfl ?_
    refine Go.ic_eq (off := 5) (tgt := 20) (by decide +kernel) (by decide) (fun c3 => ?_) (fun c3 => ?_)
    · replace e := ite_t c3 e
      refine Go.run (pc' := 21) [.aload_n 0] (ls' := [some (.ref a0), none]) (st' := [.ref a0]) (by decide +kernel) rfl rfl ?_
      obtain ⟨v4, e5, e⟩ := bd_inv e
      refine Go.callV (M2 := m_T_goToCommands) (a := a0) (as := []) (rest := []) (v := none) (h1 := v4) (x_T_goToCommands hf hI k0 e5) wv_T_30 k0 kc_2 (by decide +kernel) rfl rfl ⟨⟨Nat.le_of_ble_eq_true rfl, Nat.le_of_ble_eq_true rfl⟩, ⟨Nat.le_of_ble_eq_true rfl, Nat.le_of_ble_eq_true rfl⟩⟩ (Nat.le_of_ble_eq_true rfl) ?_
      show Go l D ad aC (rmk m_T_firstError) _ m_T_firstError 24 [some (.ref a0), none] [] v4 0 0
      refine Go.run (pc' := 26) [.iconst 0, .istore_n 1] (ls' := [some (.ref a0), some (.int (0 : Int32))]) (st' := []) (by decide +kernel) rfl rfl ?_
      exact x_T_firstError_26 hf hI 4096 k0 e
    · replace e := ite_f c3 e
      refine Go.run (pc' := 19) [.iconst 0] (ls' := [some (.ref a0), none]) (st' := [.int (0 : Int32)]) (by decide +kernel) rfl rfl ?_
      obtain rfl := Option.some.inj e
      exact Go.iret rfl (by decide) (by decide) (by decide +kernel)
def f_P_count (h : HP) (a0 : Nat) : Option (Int32) :=
  some (h a0 2)
set_option maxHeartbeats 1000000 in
theorem x_P_count {l : Launch} {D : va_G} {ad : Nat → Nat} {aC : Nat → ClassId} (hf : l.flags = flags0) (hI : Inj ad) {h : HP} {a0 : Nat} {r : Int32} (k0 : knd a0 = 3) (e : f_P_count h a0 = some r) : CT l D ad aC m_P_count [.ref a0] h (.inl (some (.int r))) h := by
  refine CT.ofGo (by decide +kernel) rfl (Nat.le_of_ble_eq_true rfl) ?_
  unfold f_P_count at e
  show Go l D ad aC (rmk m_P_count) _ m_P_count 0 [some (.ref a0)] [] h 0 0
  refine Go.run (pc' := 1) [.aload_n 0] (ls' := [some (.ref a0)]) (st' := [.ref a0]) (by decide +kernel) rfl rfl ?_
  refine Go.getI fo_P_18 k0 (by decide +kernel) ?_
  obtain rfl := Option.some.inj e
  exact Go.iret rfl (by decide) (by decide) (by decide +kernel)
def f_P_forget (h : HP) (a0 : Nat) : Option (HP) :=
  (some (hset h a0 2 (0 : Int32))).bind fun h1 =>
  some h1
set_option maxHeartbeats 1000000 in
theorem x_P_forget {l : Launch} {D : va_G} {ad : Nat → Nat} {aC : Nat → ClassId} (hf : l.flags = flags0) (hI : Inj ad) {h : HP} {a0 : Nat} {r : HP} (k0 : knd a0 = 3) (e : f_P_forget h a0 = some r) : CT l D ad aC m_P_forget [.ref a0] h (.inl none) r := by
  refine CT.ofGo (by decide +kernel) rfl (Nat.le_of_ble_eq_true rfl) ?_
  unfold f_P_forget at e
  show Go l D ad aC (rmk m_P_forget) _ m_P_forget 0 [some (.ref a0)] [] h 0 0
  refine Go.run (pc' := 2) [.aload_n 0, .iconst 0] (ls' := [some (.ref a0)]) (st' := [.int (0 : Int32), .ref a0]) (by decide +kernel) rfl rfl ?_
  refine Go.put hI po_P_18 k0 (nar_i _) (fit_i _) (by decide +kernel) ?_
  obtain ⟨h1, q2, e⟩ := bd_inv e
  refine Go.eqH (Option.some.inj q2) ?_
  obtain rfl := Option.some.inj e
  exact Go.vret rfl (by decide) (by decide) (by decide +kernel)
def f_P_remember (h : HP) (a0 : Nat) (a1 : Nat) : Option (HP) :=
  (f_J_floorMod h (h a0 1) (14 : Int32)).bind fun v1 =>
  if ib v1 14 = true then
  (f_S_copy h (fld (fld a0 0) v1.toNatClampNeg) a1).bind fun v4 =>
  (some (hset v4 a0 1 (v1 + (1 : Int32)))).bind fun h6 =>
  (f_J_min h6 ((h6 a0 2) + (1 : Int32)) (14 : Int32)).bind fun v8 =>
  (some (hset h6 a0 2 v8)).bind fun h10 =>
  some h10
  else none
set_option maxHeartbeats 1000000 in
theorem x_P_remember {l : Launch} {D : va_G} {ad : Nat → Nat} {aC : Nat → ClassId} (hf : l.flags = flags0) (hI : Inj ad) {h : HP} {a0 : Nat} {a1 : Nat} {r : HP} (k0 : knd a0 = 3) (k1 : knd a1 = 6) (e : f_P_remember h a0 a1 = some r) : CT l D ad aC m_P_remember [.ref a0, .ref a1] h (.inl none) r := by
  refine CT.ofGo (by decide +kernel) rfl (Nat.le_of_ble_eq_true rfl) ?_
  unfold f_P_remember at e
  show Go l D ad aC (rmk m_P_remember) _ m_P_remember 0 [some (.ref a0), some (.ref a1), none] [] h 0 0
  refine Go.run (pc' := 1) [.aload_n 0] (ls' := [some (.ref a0), some (.ref a1), none]) (st' := [.ref a0]) (by decide +kernel) rfl rfl ?_
  refine Go.getI fo_P_22 k0 (by decide +kernel) ?_
  refine Go.run (pc' := 6) [.bipush (14)] (ls' := [some (.ref a0), some (.ref a1), none]) (st' := [.int (14 : Int32), .int (h a0 1)]) (by decide +kernel) rfl rfl ?_
  obtain ⟨v1, e2, e⟩ := bd_inv e
  refine Go.callS (M2 := m_J_floorMod) (as := [.int (h a0 1), .int (14 : Int32)]) (rest := []) (v := some (.int v1)) (h1 := h) (x_J_floorMod hf hI  e2) ws_P_25 (by decide +kernel) rfl rfl ⟨⟨Nat.le_of_ble_eq_true rfl, Nat.le_of_ble_eq_true rfl⟩, ⟨Nat.le_of_ble_eq_true rfl, Nat.le_of_ble_eq_true rfl⟩⟩ (Nat.le_of_ble_eq_true rfl) ?_
  show Go l D ad aC (rmk m_P_remember) _ m_P_remember 9 [some (.ref a0), some (.ref a1), none] [.int v1] h 0 0
  refine Go.run (pc' := 11) [.istore_n 2, .aload_n 0] (ls' := [some (.ref a0), some (.ref a1), some (.int v1)]) (st' := [.ref a0]) (by decide +kernel) rfl rfl ?_
  refine Go.getR fo_P_11 k0 (by decide +kernel) ?_
  refine Go.run (pc' := 15) [.iload_n 2] (ls' := [some (.ref a0), some (.ref a1), some (.int v1)]) (st' := [.int v1, .ref (fld a0 0)]) (by decide +kernel) rfl rfl ?_
  obtain ⟨g3, e⟩ := gd_inv e
  refine Go.aald (kf_3_0 k0) (al_3_0 k0) g3 (by decide +kernel) ?_
  refine Go.run (pc' := 17) [.aload_n 1] (ls' := [some (.ref a0), some (.ref a1), some (.int v1)]) (st' := [.ref a1, .ref (fld (fld a0 0) v1.toNatClampNeg)]) (by decide +kernel) rfl rfl ?_
  obtain ⟨v4, e5, e⟩ := bd_inv e
  refine Go.callV (M2 := m_S_copy) (a := (fld (fld a0 0) v1.toNatClampNeg)) (as := [.ref a1]) (rest := []) (v := none) (h1 := v4) (x_S_copy hf hI (ke (kf_3_0 k0) (al_3_0 k0) g3) k1 e5) wv_P_31 (ke (kf_3_0 k0) (al_3_0 k0) g3) kc_6 (by decide +kernel) rfl rfl ⟨⟨Nat.le_of_ble_eq_true rfl, Nat.le_of_ble_eq_true rfl⟩, ⟨Nat.le_of_ble_eq_true rfl, Nat.le_of_ble_eq_true rfl⟩⟩ (Nat.le_of_ble_eq_true rfl) ?_
  show Go l D ad aC (rmk m_P_remember) _ m_P_remember 20 [some (.ref a0), some (.ref a1), some (.int v1)] [] v4 0 0
  refine Go.run (pc' := 24) [.aload_n 0, .iload_n 2, .iconst 1, .iadd] (ls' := [some (.ref a0), some (.ref a1), some (.int v1)]) (st' := [.int (v1 + (1 : Int32)), .ref a0]) (by decide +kernel) rfl rfl ?_
  refine Go.put hI po_P_22 k0 (nar_i _) (fit_i _) (by decide +kernel) ?_
  obtain ⟨h6, q7, e⟩ := bd_inv e
  refine Go.eqH (Option.some.inj q7) ?_
  refine Go.run (pc' := 29) [.aload_n 0, .aload_n 0] (ls' := [some (.ref a0), some (.ref a1), some (.int v1)]) (st' := [.ref a0, .ref a0]) (by decide +kernel) rfl rfl ?_
  refine Go.getI fo_P_18 k0 (by decide +kernel) ?_
  refine Go.run (pc' := 36) [.iconst 1, .iadd, .bipush (14)] (ls' := [some (.ref a0), some (.ref a1), some (.int v1)]) (st' := [.int (14 : Int32), .int ((h6 a0 2) + (1 : Int32)), .ref a0]) (by decide +kernel) rfl rfl ?_
  obtain ⟨v8, e9, e⟩ := bd_inv e
  refine Go.callS (M2 := m_J_min) (as := [.int ((h6 a0 2) + (1 : Int32)), .int (14 : Int32)]) (rest := [.ref a0]) (v := some (.int v8)) (h1 := h6) (x_J_min hf hI  e9) ws_P_35 (by decide +kernel) rfl rfl ⟨⟨Nat.le_of_ble_eq_true rfl, Nat.le_of_ble_eq_true rfl⟩, ⟨Nat.le_of_ble_eq_true rfl, Nat.le_of_ble_eq_true rfl⟩⟩ (Nat.le_of_ble_eq_true rfl) ?_
  show Go l D ad aC (rmk m_P_remember) _ m_P_remember 39 [some (.ref a0), some (.ref a1), some (.int v1)] [.int v8, .ref a0] h6 0 0
  refine Go.put hI po_P_18 k0 (nar_i _) (fit_i _) (by decide +kernel) ?_
  obtain ⟨h10, q11, e⟩ := bd_inv e
  refine Go.eqH (Option.some.inj q11) ?_
  obtain rfl := Option.some.inj e
  exact Go.vret rfl (by decide) (by decide) (by decide +kernel)
def f_P_takeLast (h : HP) (a0 : Nat) : Option (Nat × HP) :=
  (f_J_floorMod h ((h a0 1) - (1 : Int32)) (14 : Int32)).bind fun v1 =>
  (some (hset h a0 1 v1)).bind fun h3 =>
  (f_J_max h3 ((h3 a0 2) - (1 : Int32)) (0 : Int32)).bind fun v5 =>
  (some (hset h3 a0 2 v5)).bind fun h7 =>
  if ib (h7 a0 1) 14 = true then
  some (fld (fld a0 0) (h7 a0 1).toNatClampNeg, h7)
  else none
set_option maxHeartbeats 1000000 in
theorem x_P_takeLast {l : Launch} {D : va_G} {ad : Nat → Nat} {aC : Nat → ClassId} (hf : l.flags = flags0) (hI : Inj ad) {h : HP} {a0 : Nat} {r : Nat × HP} (k0 : knd a0 = 3) (e : f_P_takeLast h a0 = some r) : CT l D ad aC m_P_takeLast [.ref a0] h (.inl (some (.ref r.1))) r.2 := by
  refine CT.ofGo (by decide +kernel) rfl (Nat.le_of_ble_eq_true rfl) ?_
  unfold f_P_takeLast at e
  show Go l D ad aC (rmk m_P_takeLast) _ m_P_takeLast 0 [some (.ref a0)] [] h 0 0
  refine Go.run (pc' := 2) [.aload_n 0, .aload_n 0] (ls' := [some (.ref a0)]) (st' := [.ref a0, .ref a0]) (by decide +kernel) rfl rfl ?_
  refine Go.getI fo_P_22 k0 (by decide +kernel) ?_
  refine Go.run (pc' := 9) [.iconst 1, .isub, .bipush (14)] (ls' := [some (.ref a0)]) (st' := [.int (14 : Int32), .int ((h a0 1) - (1 : Int32)), .ref a0]) (by decide +kernel) rfl rfl ?_
  obtain ⟨v1, e2, e⟩ := bd_inv e
  refine Go.callS (M2 := m_J_floorMod) (as := [.int ((h a0 1) - (1 : Int32)), .int (14 : Int32)]) (rest := [.ref a0]) (v := some (.int v1)) (h1 := h) (x_J_floorMod hf hI  e2) ws_P_25 (by decide +kernel) rfl rfl ⟨⟨Nat.le_of_ble_eq_true rfl, Nat.le_of_ble_eq_true rfl⟩, ⟨Nat.le_of_ble_eq_true rfl, Nat.le_of_ble_eq_true rfl⟩⟩ (Nat.le_of_ble_eq_true rfl) ?_
  show Go l D ad aC (rmk m_P_takeLast) _ m_P_takeLast 12 [some (.ref a0)] [.int v1, .ref a0] h 0 0
  refine Go.put hI po_P_22 k0 (nar_i _) (fit_i _) (by decide +kernel) ?_
  obtain ⟨h3, q4, e⟩ := bd_inv e
  refine Go.eqH (Option.some.inj q4) ?_
  refine Go.run (pc' := 17) [.aload_n 0, .aload_n 0] (ls' := [some (.ref a0)]) (st' := [.ref a0, .ref a0]) (by decide +kernel) rfl rfl ?_
  refine Go.getI fo_P_18 k0 (by decide +kernel) ?_
  refine Go.run (pc' := 23) [.iconst 1, .isub, .iconst 0] (ls' := [some (.ref a0)]) (st' := [.int (0 : Int32), .int ((h3 a0 2) - (1 : Int32)), .ref a0]) (by decide +kernel) rfl rfl ?_
  obtain ⟨v5, e6, e⟩ := bd_inv e
  refine Go.callS (M2 := m_J_max) (as := [.int ((h3 a0 2) - (1 : Int32)), .int (0 : Int32)]) (rest := [.ref a0]) (v := some (.int v5)) (h1 := h3) (x_J_max hf hI  e6) ws_P_38 (by decide +kernel) rfl rfl ⟨⟨Nat.le_of_ble_eq_true rfl, Nat.le_of_ble_eq_true rfl⟩, ⟨Nat.le_of_ble_eq_true rfl, Nat.le_of_ble_eq_true rfl⟩⟩ (Nat.le_of_ble_eq_true rfl) ?_
  show Go l D ad aC (rmk m_P_takeLast) _ m_P_takeLast 26 [some (.ref a0)] [.int v5, .ref a0] h3 0 0
  refine Go.put hI po_P_18 k0 (nar_i _) (fit_i _) (by decide +kernel) ?_
  obtain ⟨h7, q8, e⟩ := bd_inv e
  refine Go.eqH (Option.some.inj q8) ?_
  refine Go.run (pc' := 30) [.aload_n 0] (ls' := [some (.ref a0)]) (st' := [.ref a0]) (by decide +kernel) rfl rfl ?_
  refine Go.getR fo_P_11 k0 (by decide +kernel) ?_
  refine Go.run (pc' := 34) [.aload_n 0] (ls' := [some (.ref a0)]) (st' := [.ref a0, .ref (fld a0 0)]) (by decide +kernel) rfl rfl ?_
  refine Go.getI fo_P_22 k0 (by decide +kernel) ?_
  obtain ⟨g9, e⟩ := gd_inv e
  refine Go.aald (kf_3_0 k0) (al_3_0 k0) g9 (by decide +kernel) ?_
  obtain rfl := Option.some.inj e
  exact Go.aret rfl (Or.inl ⟨_, rfl⟩) (by decide) (by decide) (by decide +kernel)
def f_L_forget_2  : Nat → Nat → Int32 → HP → Option (HP)
  | 0, _, _, _ => none
  | n + 1, a0, x1, h =>
    if (2 : Int32) ≤ x1 then
      some h
    else
      if ib x1 2 = true then
      (some (hset h (fld a0 1) x1.toNatClampNeg (0 : Int32))).bind fun h3 =>
      f_L_forget_2 n a0 (x1 + (1 : Int32)) h3
      else none
set_option maxHeartbeats 1000000 in
theorem x_L_forget_2 {l : Launch} {D : va_G} {ad : Nat → Nat} {aC : Nat → ClassId} (hf : l.flags = flags0) (hI : Inj ad) : ∀ (n : Nat) {a0 : Nat} {x1 : Int32} {h : HP} {r : HP}, knd a0 = 5 → f_L_forget_2 n a0 x1 h = some r → Go l D ad aC (rmk m_L_forget) (QM D ad aC m_L_forget (.inl none) r) m_L_forget 2 [some (.ref a0), some (.int x1)] [] h 0 0 := by
  intro n
  induction n with
  | zero => intro a0 x1 h r k0 e; exact no_none e
  | succ n ih =>
    intro a0 x1 h r k0 e
    rw [f_L_forget_2] at e
    refine Go.run (pc' := 4) [.iload_n 1, .iconst 2] (ls' := [some (.ref a0), some (.int x1)]) (st' := [.int (2 : Int32), .int x1]) (by decide +kernel) rfl rfl ?_
    refine Go.ic_ge (off := 16) (tgt := 20) (by decide +kernel) (by decide) (fun c1 => ?_) (fun c1 => ?_)
    · replace e := ite_t c1 e
      obtain rfl := Option.some.inj e
      exact Go.vret rfl (by decide) (by decide) (by decide +kernel)
    · replace e := ite_f c1 e
      refine Go.run (pc' := 8) [.aload_n 0] (ls' := [some (.ref a0), some (.int x1)]) (st' := [.ref a0]) (by decide +kernel) rfl rfl ?_
      refine Go.getR fo_L_17 k0 (by decide +kernel) ?_
      refine Go.run (pc' := 13) [.iload_n 1, .iconst 0] (ls' := [some (.ref a0), some (.int x1)]) (st' := [.int (0 : Int32), .int x1, .ref (fld a0 1)]) (by decide +kernel) rfl rfl ?_
      obtain ⟨g2, e⟩ := gd_inv e
      refine Go.bast hI (kf_5_1 k0) (al_5_1 k0) g2 (isB_vp (by decide)) (by decide +kernel) ?_
      obtain ⟨h3, q4, e⟩ := bd_inv e
      refine Go.eqH (Option.some.inj q4) ?_
      refine Go.run (pc' := 17) [.iinc 1 (1)] (ls' := [some (.ref a0), some (.int (x1 + (1 : Int32)))]) (st' := []) (by decide +kernel) rfl rfl ?_
      refine Go.goto (off := -15) (tgt := 2) (by decide +kernel) (by decide) ?_
      exact ih k0 e
def f_L_forget (h : HP) (a0 : Nat) : Option (HP) :=
  f_L_forget_2 4096 a0 (0 : Int32) h
set_option maxHeartbeats 1000000 in
theorem x_L_forget {l : Launch} {D : va_G} {ad : Nat → Nat} {aC : Nat → ClassId} (hf : l.flags = flags0) (hI : Inj ad) {h : HP} {a0 : Nat} {r : HP} (k0 : knd a0 = 5) (e : f_L_forget h a0 = some r) : CT l D ad aC m_L_forget [.ref a0] h (.inl none) r := by
  refine CT.ofGo (by decide +kernel) rfl (Nat.le_of_ble_eq_true rfl) ?_
  unfold f_L_forget at e
  show Go l D ad aC (rmk m_L_forget) _ m_L_forget 0 [some (.ref a0), none] [] h 0 0
  refine Go.run (pc' := 2) [.iconst 0, .istore_n 1] (ls' := [some (.ref a0), some (.int (0 : Int32))]) (st' := []) (by decide +kernel) rfl rfl ?_
  exact x_L_forget_2 hf hI 4096 k0 e
def f_L_isFilled (h : HP) (a0 : Nat) (x1 : Int32) : Option (Int32) :=
  (f_F_inRange h x1 (0 : Int32) (1 : Int32)).bind fun v1 =>
  if v1 = 0 then
    some (0 : Int32)
  else
    if ib x1 2 = true then
    if (h (fld a0 1) x1.toNatClampNeg) = 0 then
      some (0 : Int32)
    else
      some (1 : Int32)
    else none
set_option maxHeartbeats 1000000 in
theorem x_L_isFilled {l : Launch} {D : va_G} {ad : Nat → Nat} {aC : Nat → ClassId} (hf : l.flags = flags0) (hI : Inj ad) {h : HP} {a0 : Nat} {x1 : Int32} {r : Int32} (k0 : knd a0 = 5) (e : f_L_isFilled h a0 x1 = some r) : CT l D ad aC m_L_isFilled [.ref a0, .int x1] h (.inl (some (.int r))) h := by
  refine CT.ofGo (by decide +kernel) rfl (Nat.le_of_ble_eq_true rfl) ?_
  unfold f_L_isFilled at e
  show Go l D ad aC (rmk m_L_isFilled) _ m_L_isFilled 0 [some (.ref a0), some (.int x1)] [] h 0 0
  refine Go.run (pc' := 3) [.iload_n 1, .iconst 0, .iconst 1] (ls' := [some (.ref a0), some (.int x1)]) (st' := [.int (1 : Int32), .int (0 : Int32), .int x1]) (by decide +kernel) rfl rfl ?_
  obtain ⟨v1, e2, e⟩ := bd_inv e
  refine Go.callN (M2 := m_F_inRange) (as := [.int x1, .int (0 : Int32), .int (1 : Int32)]) (rest := []) (v := some (.int v1)) (h1 := h) (x_F_inRange hf hI  e2) wn_L_22 (by decide +kernel) rfl rfl ⟨⟨Nat.le_of_ble_eq_true rfl, Nat.le_of_ble_eq_true rfl⟩, ⟨Nat.le_of_ble_eq_true rfl, Nat.le_of_ble_eq_true rfl⟩⟩ (Nat.le_of_ble_eq_true rfl) ?_
  show Go l D ad aC (rmk m_L_isFilled) _ m_L_isFilled 6 [some (.ref a0), some (.int x1)] [.int v1] h 0 0
  refine Go.if_eq (off := 16) (tgt := 22) (by decide +kernel) (by decide) (fun c3 => ?_) (fun c3 => ?_)
  · replace e := ite_t c3 e
    refine Go.run (pc' := 23) [.iconst 0] (ls' := [some (.ref a0), some (.int x1)]) (st' := [.int (0 : Int32)]) (by decide +kernel) rfl rfl ?_
    obtain rfl := Option.some.inj e
    exact Go.zret rfl nar_z0 (by decide) (by decide) (by decide +kernel)
  · replace e := ite_f c3 e
    refine Go.run (pc' := 10) [.aload_n 0] (ls' := [some (.ref a0), some (.int x1)]) (st' := [.ref a0]) (by decide +kernel) rfl rfl ?_
    refine Go.getR fo_L_17 k0 (by decide +kernel) ?_
    refine Go.run (pc' := 14) [.iload_n 1] (ls' := [some (.ref a0), some (.int x1)]) (st' := [.int x1, .ref (fld a0 1)]) (by decide +kernel) rfl rfl ?_
    obtain ⟨g4, e⟩ := gd_inv e
    refine Go.bald (kf_5_1 k0) (al_5_1 k0) g4 (by decide +kernel) ?_
    refine Go.if_eq (off := 7) (tgt := 22) (by decide +kernel) (by decide) (fun c5 => ?_) (fun c5 => ?_)
    · replace e := ite_t c5 e
      refine Go.run (pc' := 23) [.iconst 0] (ls' := [some (.ref a0), some (.int x1)]) (st' := [.int (0 : Int32)]) (by decide +kernel) rfl rfl ?_
      obtain rfl := Option.some.inj e
      exact Go.zret rfl nar_z0 (by decide) (by decide) (by decide +kernel)
    · replace e := ite_f c5 e
      refine Go.run (pc' := 19) [.iconst 1] (ls' := [some (.ref a0), some (.int x1)]) (st' := [.int (1 : Int32)]) (by decide +kernel) rfl rfl ?_
      refine Go.goto (off := 4) (tgt := 23) (by decide +kernel) (by decide) ?_
      obtain rfl := Option.some.inj e
      exact Go.zret rfl nar_z1 (by decide) (by decide) (by decide +kernel)
def f_L_keep (h : HP) (a0 : Nat) (x1 : Int32) (a2 : Nat) : Option (HP) :=
  (f_F_inRange h x1 (0 : Int32) (1 : Int32)).bind fun v1 =>
  if v1 = 0 then
    some h
  else
    if ib x1 2 = true then
    (f_S_copy h (fld (fld a0 0) x1.toNatClampNeg) a2).bind fun v5 =>
    if ib x1 2 = true then
    (some (hset v5 (fld a0 1) x1.toNatClampNeg (1 : Int32))).bind fun h8 =>
    some h8
    else none
    else none
set_option maxHeartbeats 1000000 in
theorem x_L_keep {l : Launch} {D : va_G} {ad : Nat → Nat} {aC : Nat → ClassId} (hf : l.flags = flags0) (hI : Inj ad) {h : HP} {a0 : Nat} {x1 : Int32} {a2 : Nat} {r : HP} (k0 : knd a0 = 5) (k2 : knd a2 = 6) (e : f_L_keep h a0 x1 a2 = some r) : CT l D ad aC m_L_keep [.ref a0, .int x1, .ref a2] h (.inl none) r := by
  refine CT.ofGo (by decide +kernel) rfl (Nat.le_of_ble_eq_true rfl) ?_
  unfold f_L_keep at e
  show Go l D ad aC (rmk m_L_keep) _ m_L_keep 0 [some (.ref a0), some (.int x1), some (.ref a2)] [] h 0 0
  refine Go.run (pc' := 3) [.iload_n 1, .iconst 0, .iconst 1] (ls' := [some (.ref a0), some (.int x1), some (.ref a2)]) (st' := [.int (1 : Int32), .int (0 : Int32), .int x1]) (by decide +kernel) rfl rfl ?_
  obtain ⟨v1, e2, e⟩ := bd_inv e
  refine Go.callN (M2 := m_F_inRange) (as := [.int x1, .int (0 : Int32), .int (1 : Int32)]) (rest := []) (v := some (.int v1)) (h1 := h) (x_F_inRange hf hI  e2) wn_L_22 (by decide +kernel) rfl rfl ⟨⟨Nat.le_of_ble_eq_true rfl, Nat.le_of_ble_eq_true rfl⟩, ⟨Nat.le_of_ble_eq_true rfl, Nat.le_of_ble_eq_true rfl⟩⟩ (Nat.le_of_ble_eq_true rfl) ?_
  show Go l D ad aC (rmk m_L_keep) _ m_L_keep 6 [some (.ref a0), some (.int x1), some (.ref a2)] [.int v1] h 0 0
  refine Go.if_eq (off := 20) (tgt := 26) (by decide +kernel) (by decide) (fun c3 => ?_) (fun c3 => ?_)
  · replace e := ite_t c3 e
    obtain rfl := Option.some.inj e
    exact Go.vret rfl (by decide) (by decide) (by decide +kernel)
  · replace e := ite_f c3 e
    refine Go.run (pc' := 10) [.aload_n 0] (ls' := [some (.ref a0), some (.int x1), some (.ref a2)]) (st' := [.ref a0]) (by decide +kernel) rfl rfl ?_
    refine Go.getR fo_L_11 k0 (by decide +kernel) ?_
    refine Go.run (pc' := 14) [.iload_n 1] (ls' := [some (.ref a0), some (.int x1), some (.ref a2)]) (st' := [.int x1, .ref (fld a0 0)]) (by decide +kernel) rfl rfl ?_
    obtain ⟨g4, e⟩ := gd_inv e
    refine Go.aald (kf_5_0 k0) (al_5_0 k0) g4 (by decide +kernel) ?_
    refine Go.run (pc' := 16) [.aload_n 2] (ls' := [some (.ref a0), some (.int x1), some (.ref a2)]) (st' := [.ref a2, .ref (fld (fld a0 0) x1.toNatClampNeg)]) (by decide +kernel) rfl rfl ?_
    obtain ⟨v5, e6, e⟩ := bd_inv e
    refine Go.callV (M2 := m_S_copy) (a := (fld (fld a0 0) x1.toNatClampNeg)) (as := [.ref a2]) (rest := []) (v := none) (h1 := v5) (x_S_copy hf hI (ke (kf_5_0 k0) (al_5_0 k0) g4) k2 e6) wv_L_26 (ke (kf_5_0 k0) (al_5_0 k0) g4) kc_6 (by decide +kernel) rfl rfl ⟨⟨Nat.le_of_ble_eq_true rfl, Nat.le_of_ble_eq_true rfl⟩, ⟨Nat.le_of_ble_eq_true rfl, Nat.le_of_ble_eq_true rfl⟩⟩ (Nat.le_of_ble_eq_true rfl) ?_
    show Go l D ad aC (rmk m_L_keep) _ m_L_keep 19 [some (.ref a0), some (.int x1), some (.ref a2)] [] v5 0 0
    refine Go.run (pc' := 20) [.aload_n 0] (ls' := [some (.ref a0), some (.int x1), some (.ref a2)]) (st' := [.ref a0]) (by decide +kernel) rfl rfl ?_
    refine Go.getR fo_L_17 k0 (by decide +kernel) ?_
    refine Go.run (pc' := 25) [.iload_n 1, .iconst 1] (ls' := [some (.ref a0), some (.int x1), some (.ref a2)]) (st' := [.int (1 : Int32), .int x1, .ref (fld a0 1)]) (by decide +kernel) rfl rfl ?_
    obtain ⟨g7, e⟩ := gd_inv e
    refine Go.bast hI (kf_5_1 k0) (al_5_1 k0) g7 (isB_vp (by decide)) (by decide +kernel) ?_
    obtain ⟨h8, q9, e⟩ := bd_inv e
    refine Go.eqH (Option.some.inj q9) ?_
    obtain rfl := Option.some.inj e
    exact Go.vret rfl (by decide) (by decide) (by decide +kernel)
def f_L_kept_13 (h : HP)  (b0 : Nat) (s1 : Int32) : Option (Nat) :=
  if ib s1 2 = true then
  some (fld b0 s1.toNatClampNeg)
  else none
set_option maxHeartbeats 1000000 in
theorem x_L_kept_13 {l : Launch} {D : va_G} {ad : Nat → Nat} {aC : Nat → ClassId} (hf : l.flags = flags0) (hI : Inj ad) {h : HP} {b0 : Nat} {s1 : Int32} {r : Nat} (kb0 : knd b0 = 14) (qb0 : alen b0 = 2) (e : f_L_kept_13 h b0 s1 = some r) : Go l D ad aC (rmk m_L_kept) (QM D ad aC m_L_kept (.inl (some (.ref r))) h) m_L_kept 13 [none, none] [.int s1, .ref b0] h 0 0 := by
  unfold f_L_kept_13 at e
  obtain ⟨g1, e⟩ := gd_inv e
  refine Go.aald kb0 qb0 g1 (by decide +kernel) ?_
  obtain rfl := Option.some.inj e
  exact Go.aret rfl (Or.inl ⟨_, rfl⟩) (by decide) (by decide) (by decide +kernel)
def f_L_kept (h : HP) (a0 : Nat) (x1 : Int32) : Option (Nat) :=
  if x1 = 0 then
    f_L_kept_13 h (fld a0 0) (0 : Int32)
  else
    f_L_kept_13 h (fld a0 0) (1 : Int32)
set_option maxHeartbeats 1000000 in
theorem x_L_kept {l : Launch} {D : va_G} {ad : Nat → Nat} {aC : Nat → ClassId} (hf : l.flags = flags0) (hI : Inj ad) {h : HP} {a0 : Nat} {x1 : Int32} {r : Nat} (k0 : knd a0 = 5) (e : f_L_kept h a0 x1 = some r) : CT l D ad aC m_L_kept [.ref a0, .int x1] h (.inl (some (.ref r))) h := by
  refine CT.ofGo (by decide +kernel) rfl (Nat.le_of_ble_eq_true rfl) ?_
  unfold f_L_kept at e
  show Go l D ad aC (rmk m_L_kept) _ m_L_kept 0 [some (.ref a0), some (.int x1)] [] h 0 0
  refine Go.run (pc' := 1) [.aload_n 0] (ls' := [some (.ref a0), some (.int x1)]) (st' := [.ref a0]) (by decide +kernel) rfl rfl ?_
  refine Go.getR fo_L_11 k0 (by decide +kernel) ?_
  refine Go.run (pc' := 5) [.iload_n 1] (ls' := [some (.ref a0), some (.int x1)]) (st' := [.int x1, .ref (fld a0 0)]) (by decide +kernel) rfl rfl ?_
  refine Go.if_ne (off := 7) (tgt := 12) (by decide +kernel) (by decide) (fun c1 => ?_) (fun c1 => ?_)
  · replace e := ite_f c1 e
    refine Go.run (pc' := 13) [.iconst 1] (ls' := [some (.ref a0), some (.int x1)]) (st' := [.int (1 : Int32), .ref (fld a0 0)]) (by decide +kernel) rfl rfl ?_
    refine Go.wk' (wkn (wkn wk0)) ?_
    exact x_L_kept_13 hf hI (kf_5_0 k0) (al_5_0 k0) e
  · replace e := ite_t c1 e
    refine Go.run (pc' := 9) [.iconst 0] (ls' := [some (.ref a0), some (.int x1)]) (st' := [.int (0 : Int32), .ref (fld a0 0)]) (by decide +kernel) rfl rfl ?_
    refine Go.goto (off := 4) (tgt := 13) (by decide +kernel) (by decide) ?_
    refine Go.wk' (wkn (wkn wk0)) ?_
    exact x_L_kept_13 hf hI (kf_5_0 k0) (al_5_0 k0) e
