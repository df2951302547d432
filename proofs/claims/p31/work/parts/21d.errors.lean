/-! printed by wip/p31/law31.py -/
def f_Q_errors_694  (a0 : Nat) (y1 : Int64) (s0 : Int32) (h : HP) : Option (Int32 × HP) :=
  if s0 = 0 then
    some ((0 : Int32), h)
  else
    (f_Q_now h a0).bind fun v2 =>
    if (lg_cmp v2.1 y1) = 0 then
      some ((1 : Int32), v2.2)
    else
      some ((0 : Int32), v2.2)
set_option maxHeartbeats 4000000 in
theorem x_Q_errors_694 {l : Launch} {D : va_G} {ad : Nat → Nat} {aC : Nat → ClassId} (hf : l.flags = flags0) (hI : Inj ad) {a0 : Nat} {y1 : Int64} {s0 : Int32} {h : HP} {r : Int32 × HP} (k0 : knd a0 = 7) (e : f_Q_errors_694 a0 y1 s0 h = some r) : Go l D ad aC (rmk m_Q_errors) (QM D ad aC m_Q_errors (.inl (some (.int r.1))) r.2) m_Q_errors 694 [some (.ref a0), some (.long y1), none, none, none, none] [.int s0] h 49 294 := by
  unfold f_Q_errors_694 at e
  refine Go.run (pc' := 698) [.istore 5, .iload 5] (ls' := [some (.ref a0), some (.long y1), none, none, none, some (.int s0)]) (st' := [.int s0]) (by decide +kernel) rfl rfl ?_
  refine Go.if_eq (off := 16) (tgt := 714) (by decide +kernel) (by decide) (fun c1 => ?_) (fun c1 => ?_)
  · replace e := ite_t c1 e
    refine Go.run (pc' := 715) [.iconst 0] (ls' := [some (.ref a0), some (.long y1), none, none, none, some (.int s0)]) (st' := [.int (0 : Int32)]) (by decide +kernel) rfl rfl ?_
    obtain rfl := Option.some.inj e
    exact Go.zret rfl nar_z0 (by decide) (by decide) (by decide +kernel)
  · replace e := ite_f c1 e
    refine Go.run (pc' := 702) [.aload_n 0] (ls' := [some (.ref a0), some (.long y1), none, none, none, some (.int s0)]) (st' := [.ref a0]) (by decide +kernel) rfl rfl ?_
    obtain ⟨v2, e3, e⟩ := bd_inv e
    refine Go.callS (M2 := m_Q_now) (as := [.ref a0]) (rest := []) (v := some (.long v2.1)) (h1 := v2.2) (x_Q_now hf hI k0 e3) ws_Q_128 (by decide +kernel) rfl rfl ⟨⟨Nat.le_of_ble_eq_true rfl, Nat.le_of_ble_eq_true rfl⟩, ⟨Nat.le_of_ble_eq_true rfl, Nat.le_of_ble_eq_true rfl⟩⟩ (Nat.le_of_ble_eq_true rfl) ?_
    show Go l D ad aC (rmk m_Q_errors) _ m_Q_errors 705 [some (.ref a0), some (.long y1), none, none, none, some (.int s0)] [.long v2.1] v2.2 49 294
    refine Go.run (pc' := 707) [.lload_n 1, .lcmp] (ls' := [some (.ref a0), some (.long y1), none, none, none, some (.int s0)]) (st' := [.int (lg_cmp v2.1 y1)]) (by decide +kernel) rfl rfl ?_
    refine Go.if_ne (off := 7) (tgt := 714) (by decide +kernel) (by decide) (fun c4 => ?_) (fun c4 => ?_)
    · replace e := ite_f c4 e
      refine Go.run (pc' := 715) [.iconst 0] (ls' := [some (.ref a0), some (.long y1), none, none, none, some (.int s0)]) (st' := [.int (0 : Int32)]) (by decide +kernel) rfl rfl ?_
      obtain rfl := Option.some.inj e
      exact Go.zret rfl nar_z0 (by decide) (by decide) (by decide +kernel)
    · replace e := ite_t c4 e
      refine Go.run (pc' := 711) [.iconst 1] (ls' := [some (.ref a0), some (.long y1), none, none, none, some (.int s0)]) (st' := [.int (1 : Int32)]) (by decide +kernel) rfl rfl ?_
      refine Go.goto (off := 4) (tgt := 715) (by decide +kernel) (by decide) ?_
      obtain rfl := Option.some.inj e
      exact Go.zret rfl nar_z1 (by decide) (by decide) (by decide +kernel)
def f_Q_errors_693  (a0 : Nat) (y1 : Int64) (h : HP) : Option (Int32 × HP) :=
  f_Q_errors_694 a0 y1 (0 : Int32) h
set_option maxHeartbeats 4000000 in
theorem x_Q_errors_693 {l : Launch} {D : va_G} {ad : Nat → Nat} {aC : Nat → ClassId} (hf : l.flags = flags0) (hI : Inj ad) {a0 : Nat} {y1 : Int64} {h : HP} {r : Int32 × HP} (k0 : knd a0 = 7) (e : f_Q_errors_693 a0 y1 h = some r) : Go l D ad aC (rmk m_Q_errors) (QM D ad aC m_Q_errors (.inl (some (.int r.1))) r.2) m_Q_errors 693 [some (.ref a0), some (.long y1), none, none, none, none] [] h 49 294 := by
  unfold f_Q_errors_693 at e
  refine Go.run (pc' := 694) [.iconst 0] (ls' := [some (.ref a0), some (.long y1), none, none, none, none]) (st' := [.int (0 : Int32)]) (by decide +kernel) rfl rfl ?_
  exact x_Q_errors_694 hf hI k0 e
def f_Q_errors_610  (a0 : Nat) (y1 : Int64) (h : HP) : Option (Int32 × HP) :=
  (f_Q_script h a0 (0 : Int32) (0 : Int64)).bind fun v1 =>
  if (lg_cmp v1.1 (-9000000000000000002 : Int64)) = 0 then
    (f_Q_script v1.2 a0 (3 : Int32) (1000000000000000 : Int64)).bind fun v4 =>
    if (lg_cmp v4.1 (-9000000000000000002 : Int64)) = 0 then
      (f_Q_simulate v4.2 a0 (1 : Int64) (0 : Int32)).bind fun v7 =>
      if (lg_cmp v7.1 (-9000000000000000002 : Int64)) = 0 then
        (f_Q_save v7.2 a0 (2 : Int32)).bind fun v10 =>
        if (lg_cmp v10.1 (-9000000000000000001 : Int64)) = 0 then
          (f_Q_restore v10.2 a0 (2 : Int32)).bind fun v13 =>
          if (lg_cmp v13.1 (-9000000000000000001 : Int64)) = 0 then
            (f_Q_append v13.2 a0 (256 : Int32)).bind fun v16 =>
            if (lg_cmp v16.1 (-9000000000000000002 : Int64)) = 0 then
              f_Q_errors_694 a0 y1 (1 : Int32) v16.2
            else
              f_Q_errors_693 a0 y1 v16.2
          else
            f_Q_errors_693 a0 y1 v13.2
        else
          f_Q_errors_693 a0 y1 v10.2
      else
        f_Q_errors_693 a0 y1 v7.2
    else
      f_Q_errors_693 a0 y1 v4.2
  else
    f_Q_errors_693 a0 y1 v1.2
set_option maxHeartbeats 4000000 in
theorem x_Q_errors_610 {l : Launch} {D : va_G} {ad : Nat → Nat} {aC : Nat → ClassId} (hf : l.flags = flags0) (hI : Inj ad) {a0 : Nat} {y1 : Int64} {h : HP} {r : Int32 × HP} (k0 : knd a0 = 7) (e : f_Q_errors_610 a0 y1 h = some r) : Go l D ad aC (rmk m_Q_errors) (QM D ad aC m_Q_errors (.inl (some (.int r.1))) r.2) m_Q_errors 610 [some (.ref a0), some (.long y1), none, none, none, none] [] h 43 258 := by
  unfold f_Q_errors_610 at e
  refine Go.run (pc' := 613) [.aload_n 0, .iconst 0, .lconst 0] (ls' := [some (.ref a0), some (.long y1), none, none, none, none]) (st' := [.long (0 : Int64), .int (0 : Int32), .ref a0]) (by decide +kernel) rfl rfl ?_
  obtain ⟨v1, e2, e⟩ := bd_inv e
  refine Go.callH (M2 := m_Q_script) (as := [.ref a0, .int (0 : Int32), .long (0 : Int64)]) (rest := []) (v := some (.long v1.1)) (h1 := v1.2) (x_Q_script hf hI k0 e2) wh_Q_162 (by decide +kernel) rfl rfl ⟨⟨Nat.le_of_ble_eq_true rfl, Nat.le_of_ble_eq_true rfl⟩, ⟨Nat.le_of_ble_eq_true rfl, Nat.le_of_ble_eq_true rfl⟩⟩ (Nat.le_of_ble_eq_true rfl) ?_
  show Go l D ad aC (rmk m_Q_errors) _ m_Q_errors 616 [some (.ref a0), some (.long y1), none, none, none, none] [.long v1.1] v1.2 44 264
  refine Go.ldc2 lo_Q_17 (by decide +kernel) ?_
  refine Go.run (pc' := 620) [.lcmp] (ls' := [some (.ref a0), some (.long y1), none, none, none, none]) (st' := [.int (lg_cmp v1.1 (-9000000000000000002 : Int64))]) (by decide +kernel) rfl rfl ?_
  refine Go.if_ne (off := 73) (tgt := 693) (by decide +kernel) (by decide) (fun c3 => ?_) (fun c3 => ?_)
  · replace e := ite_f c3 e
    refine Go.wid (k' := 49) (n' := 294) (by decide) (by decide) ?_
    exact x_Q_errors_693 hf hI k0 e
  · replace e := ite_t c3 e
    refine Go.run (pc' := 625) [.aload_n 0, .iconst 3] (ls' := [some (.ref a0), some (.long y1), none, none, none, none]) (st' := [.int (3 : Int32), .ref a0]) (by decide +kernel) rfl rfl ?_
    refine Go.ldc2 lo_Q_166 (by decide +kernel) ?_
    obtain ⟨v4, e5, e⟩ := bd_inv e
    refine Go.callH (M2 := m_Q_script) (as := [.ref a0, .int (3 : Int32), .long (1000000000000000 : Int64)]) (rest := []) (v := some (.long v4.1)) (h1 := v4.2) (x_Q_script hf hI k0 e5) wh_Q_162 (by decide +kernel) rfl rfl ⟨⟨Nat.le_of_ble_eq_true rfl, Nat.le_of_ble_eq_true rfl⟩, ⟨Nat.le_of_ble_eq_true rfl, Nat.le_of_ble_eq_true rfl⟩⟩ (Nat.le_of_ble_eq_true rfl) ?_
    show Go l D ad aC (rmk m_Q_errors) _ m_Q_errors 631 [some (.ref a0), some (.long y1), none, none, none, none] [.long v4.1] v4.2 45 270
    refine Go.ldc2 lo_Q_17 (by decide +kernel) ?_
    refine Go.run (pc' := 635) [.lcmp] (ls' := [some (.ref a0), some (.long y1), none, none, none, none]) (st' := [.int (lg_cmp v4.1 (-9000000000000000002 : Int64))]) (by decide +kernel) rfl rfl ?_
    refine Go.if_ne (off := 58) (tgt := 693) (by decide +kernel) (by decide) (fun c6 => ?_) (fun c6 => ?_)
    · replace e := ite_f c6 e
      refine Go.wid (k' := 49) (n' := 294) (by decide) (by decide) ?_
      exact x_Q_errors_693 hf hI k0 e
    · replace e := ite_t c6 e
      refine Go.run (pc' := 641) [.aload_n 0, .lconst 1, .iconst 0] (ls' := [some (.ref a0), some (.long y1), none, none, none, none]) (st' := [.int (0 : Int32), .long (1 : Int64), .ref a0]) (by decide +kernel) rfl rfl ?_
      obtain ⟨v7, e8, e⟩ := bd_inv e
      refine Go.callH (M2 := m_Q_simulate) (as := [.ref a0, .long (1 : Int64), .int (0 : Int32)]) (rest := []) (v := some (.long v7.1)) (h1 := v7.2) (x_Q_simulate hf hI k0 e8) wh_Q_168 (by decide +kernel) rfl rfl ⟨⟨Nat.le_of_ble_eq_true rfl, Nat.le_of_ble_eq_true rfl⟩, ⟨Nat.le_of_ble_eq_true rfl, Nat.le_of_ble_eq_true rfl⟩⟩ (Nat.le_of_ble_eq_true rfl) ?_
      show Go l D ad aC (rmk m_Q_errors) _ m_Q_errors 644 [some (.ref a0), some (.long y1), none, none, none, none] [.long v7.1] v7.2 46 276
      refine Go.ldc2 lo_Q_17 (by decide +kernel) ?_
      refine Go.run (pc' := 648) [.lcmp] (ls' := [some (.ref a0), some (.long y1), none, none, none, none]) (st' := [.int (lg_cmp v7.1 (-9000000000000000002 : Int64))]) (by decide +kernel) rfl rfl ?_
      refine Go.if_ne (off := 45) (tgt := 693) (by decide +kernel) (by decide) (fun c9 => ?_) (fun c9 => ?_)
      · replace e := ite_f c9 e
        refine Go.wid (k' := 49) (n' := 294) (by decide) (by decide) ?_
        exact x_Q_errors_693 hf hI k0 e
      · replace e := ite_t c9 e
        refine Go.run (pc' := 653) [.aload_n 0, .iconst 2] (ls' := [some (.ref a0), some (.long y1), none, none, none, none]) (st' := [.int (2 : Int32), .ref a0]) (by decide +kernel) rfl rfl ?_
        obtain ⟨v10, e11, e⟩ := bd_inv e
        refine Go.callH (M2 := m_Q_save) (as := [.ref a0, .int (2 : Int32)]) (rest := []) (v := some (.long v10.1)) (h1 := v10.2) (x_Q_save hf hI k0 e11) wh_Q_171 (by decide +kernel) rfl rfl ⟨⟨Nat.le_of_ble_eq_true rfl, Nat.le_of_ble_eq_true rfl⟩, ⟨Nat.le_of_ble_eq_true rfl, Nat.le_of_ble_eq_true rfl⟩⟩ (Nat.le_of_ble_eq_true rfl) ?_
        show Go l D ad aC (rmk m_Q_errors) _ m_Q_errors 656 [some (.ref a0), some (.long y1), none, none, none, none] [.long v10.1] v10.2 47 282
        refine Go.ldc2 lo_Q_36 (by decide +kernel) ?_
        refine Go.run (pc' := 660) [.lcmp] (ls' := [some (.ref a0), some (.long y1), none, none, none, none]) (st' := [.int (lg_cmp v10.1 (-9000000000000000001 : Int64))]) (by decide +kernel) rfl rfl ?_
        refine Go.if_ne (off := 33) (tgt := 693) (by decide +kernel) (by decide) (fun c12 => ?_) (fun c12 => ?_)
        · replace e := ite_f c12 e
          refine Go.wid (k' := 49) (n' := 294) (by decide) (by decide) ?_
          exact x_Q_errors_693 hf hI k0 e
        · replace e := ite_t c12 e
          refine Go.run (pc' := 665) [.aload_n 0, .iconst 2] (ls' := [some (.ref a0), some (.long y1), none, none, none, none]) (st' := [.int (2 : Int32), .ref a0]) (by decide +kernel) rfl rfl ?_
          obtain ⟨v13, e14, e⟩ := bd_inv e
          refine Go.callH (M2 := m_Q_restore) (as := [.ref a0, .int (2 : Int32)]) (rest := []) (v := some (.long v13.1)) (h1 := v13.2) (x_Q_restore hf hI k0 e14) wh_Q_173 (by decide +kernel) rfl rfl ⟨⟨Nat.le_of_ble_eq_true rfl, Nat.le_of_ble_eq_true rfl⟩, ⟨Nat.le_of_ble_eq_true rfl, Nat.le_of_ble_eq_true rfl⟩⟩ (Nat.le_of_ble_eq_true rfl) ?_
          show Go l D ad aC (rmk m_Q_errors) _ m_Q_errors 668 [some (.ref a0), some (.long y1), none, none, none, none] [.long v13.1] v13.2 48 288
          refine Go.ldc2 lo_Q_36 (by decide +kernel) ?_
          refine Go.run (pc' := 672) [.lcmp] (ls' := [some (.ref a0), some (.long y1), none, none, none, none]) (st' := [.int (lg_cmp v13.1 (-9000000000000000001 : Int64))]) (by decide +kernel) rfl rfl ?_
          refine Go.if_ne (off := 21) (tgt := 693) (by decide +kernel) (by decide) (fun c15 => ?_) (fun c15 => ?_)
          · replace e := ite_f c15 e
            refine Go.wid (k' := 49) (n' := 294) (by decide) (by decide) ?_
            exact x_Q_errors_693 hf hI k0 e
          · replace e := ite_t c15 e
            refine Go.run (pc' := 679) [.aload_n 0, .sipush (256)] (ls' := [some (.ref a0), some (.long y1), none, none, none, none]) (st' := [.int (256 : Int32), .ref a0]) (by decide +kernel) rfl rfl ?_
            obtain ⟨v16, e17, e⟩ := bd_inv e
            refine Go.callH (M2 := m_Q_append) (as := [.ref a0, .int (256 : Int32)]) (rest := []) (v := some (.long v16.1)) (h1 := v16.2) (x_Q_append hf hI k0 e17) wh_Q_175 (by decide +kernel) rfl rfl ⟨⟨Nat.le_of_ble_eq_true rfl, Nat.le_of_ble_eq_true rfl⟩, ⟨Nat.le_of_ble_eq_true rfl, Nat.le_of_ble_eq_true rfl⟩⟩ (Nat.le_of_ble_eq_true rfl) ?_
            show Go l D ad aC (rmk m_Q_errors) _ m_Q_errors 682 [some (.ref a0), some (.long y1), none, none, none, none] [.long v16.1] v16.2 49 294
            refine Go.ldc2 lo_Q_17 (by decide +kernel) ?_
            refine Go.run (pc' := 686) [.lcmp] (ls' := [some (.ref a0), some (.long y1), none, none, none, none]) (st' := [.int (lg_cmp v16.1 (-9000000000000000002 : Int64))]) (by decide +kernel) rfl rfl ?_
            refine Go.if_ne (off := 7) (tgt := 693) (by decide +kernel) (by decide) (fun c18 => ?_) (fun c18 => ?_)
            · replace e := ite_f c18 e
              exact x_Q_errors_693 hf hI k0 e
            · replace e := ite_t c18 e
              refine Go.run (pc' := 690) [.iconst 1] (ls' := [some (.ref a0), some (.long y1), none, none, none, none]) (st' := [.int (1 : Int32)]) (by decide +kernel) rfl rfl ?_
              refine Go.goto (off := 4) (tgt := 694) (by decide +kernel) (by decide) ?_
              exact x_Q_errors_694 hf hI k0 e
def f_Q_errors_589  (a0 : Nat) (y1 : Int64) (x4 : Int32) (h : HP) : Option (Int32 × HP) :=
  if x4 < (10 : Int32) then
    f_Q_errors_610 a0 y1 h
  else
    (f_Q_dealer h a0 (0 : Int32) (1 : Int32) (0 : Int32)).bind fun v2 =>
    if (lg_cmp v2.1 (-9000000000000000003 : Int64)) = 0 then
      f_Q_errors_610 a0 y1 v2.2
    else
      f_Q_errors_693 a0 y1 v2.2
set_option maxHeartbeats 4000000 in
theorem x_Q_errors_589 {l : Launch} {D : va_G} {ad : Nat → Nat} {aC : Nat → ClassId} (hf : l.flags = flags0) (hI : Inj ad) {a0 : Nat} {y1 : Int64} {x4 : Int32} {h : HP} {r : Int32 × HP} (k0 : knd a0 = 7) (e : f_Q_errors_589 a0 y1 x4 h = some r) : Go l D ad aC (rmk m_Q_errors) (QM D ad aC m_Q_errors (.inl (some (.int r.1))) r.2) m_Q_errors 589 [some (.ref a0), some (.long y1), none, none, some (.int x4), none] [] h 42 252 := by
  unfold f_Q_errors_589 at e
  refine Go.run (pc' := 593) [.iload 4, .bipush (10)] (ls' := [some (.ref a0), some (.long y1), none, none, some (.int x4), none]) (st' := [.int (10 : Int32), .int x4]) (by decide +kernel) rfl rfl ?_
  refine Go.ic_lt (off := 17) (tgt := 610) (by decide +kernel) (by decide) (fun c1 => ?_) (fun c1 => ?_)
  · replace e := ite_t c1 e
    refine Go.wid (k' := 43) (n' := 258) (by decide) (by decide) ?_
    refine Go.wk' (wks (wks (wks (wks (wkn (wks wk0)))))) ?_
    exact x_Q_errors_610 hf hI k0 e
  · replace e := ite_f c1 e
    refine Go.run (pc' := 600) [.aload_n 0, .iconst 0, .iconst 1, .iconst 0] (ls' := [some (.ref a0), some (.long y1), none, none, some (.int x4), none]) (st' := [.int (0 : Int32), .int (1 : Int32), .int (0 : Int32), .ref a0]) (by decide +kernel) rfl rfl ?_
    obtain ⟨v2, e3, e⟩ := bd_inv e
    refine Go.callH (M2 := m_Q_dealer) (as := [.ref a0, .int (0 : Int32), .int (1 : Int32), .int (0 : Int32)]) (rest := []) (v := some (.long v2.1)) (h1 := v2.2) (x_Q_dealer hf hI k0 e3) wh_Q_140 (by decide +kernel) rfl rfl ⟨⟨Nat.le_of_ble_eq_true rfl, Nat.le_of_ble_eq_true rfl⟩, ⟨Nat.le_of_ble_eq_true rfl, Nat.le_of_ble_eq_true rfl⟩⟩ (Nat.le_of_ble_eq_true rfl) ?_
    show Go l D ad aC (rmk m_Q_errors) _ m_Q_errors 603 [some (.ref a0), some (.long y1), none, none, some (.int x4), none] [.long v2.1] v2.2 43 258
    refine Go.ldc2 lo_Q_21 (by decide +kernel) ?_
    refine Go.run (pc' := 607) [.lcmp] (ls' := [some (.ref a0), some (.long y1), none, none, some (.int x4), none]) (st' := [.int (lg_cmp v2.1 (-9000000000000000003 : Int64))]) (by decide +kernel) rfl rfl ?_
    refine Go.if_ne (off := 86) (tgt := 693) (by decide +kernel) (by decide) (fun c4 => ?_) (fun c4 => ?_)
    · replace e := ite_f c4 e
      refine Go.wid (k' := 49) (n' := 294) (by decide) (by decide) ?_
      refine Go.wk' (wks (wks (wks (wks (wkn (wks wk0)))))) ?_
      exact x_Q_errors_693 hf hI k0 e
    · replace e := ite_t c4 e
      refine Go.wk' (wks (wks (wks (wks (wkn (wks wk0)))))) ?_
      exact x_Q_errors_610 hf hI k0 e
def f_Q_errors_571  (a0 : Nat) (y1 : Int64) (x3 : Int32) (x4 : Int32) (h : HP) : Option (Int32 × HP) :=
  if x3 < (4 : Int32) then
    f_Q_errors_589 a0 y1 x4 h
  else
    (f_Q_wall h a0 (9 : Int32)).bind fun v2 =>
    if (lg_cmp v2.1 (-9000000000000000003 : Int64)) = 0 then
      f_Q_errors_589 a0 y1 x4 v2.2
    else
      f_Q_errors_693 a0 y1 v2.2
set_option maxHeartbeats 4000000 in
theorem x_Q_errors_571 {l : Launch} {D : va_G} {ad : Nat → Nat} {aC : Nat → ClassId} (hf : l.flags = flags0) (hI : Inj ad) {a0 : Nat} {y1 : Int64} {x3 : Int32} {x4 : Int32} {h : HP} {r : Int32 × HP} (k0 : knd a0 = 7) (e : f_Q_errors_571 a0 y1 x3 x4 h = some r) : Go l D ad aC (rmk m_Q_errors) (QM D ad aC m_Q_errors (.inl (some (.int r.1))) r.2) m_Q_errors 571 [some (.ref a0), some (.long y1), none, some (.int x3), some (.int x4), none] [] h 41 246 := by
  unfold f_Q_errors_571 at e
  refine Go.run (pc' := 573) [.iload_n 3, .iconst 4] (ls' := [some (.ref a0), some (.long y1), none, some (.int x3), some (.int x4), none]) (st' := [.int (4 : Int32), .int x3]) (by decide +kernel) rfl rfl ?_
  refine Go.ic_lt (off := 16) (tgt := 589) (by decide +kernel) (by decide) (fun c1 => ?_) (fun c1 => ?_)
  · replace e := ite_t c1 e
    refine Go.wid (k' := 42) (n' := 252) (by decide) (by decide) ?_
    refine Go.wk' (wks (wks (wks (wkn (wks (wks wk0)))))) ?_
    exact x_Q_errors_589 hf hI k0 e
  · replace e := ite_f c1 e
    refine Go.run (pc' := 579) [.aload_n 0, .bipush (9)] (ls' := [some (.ref a0), some (.long y1), none, some (.int x3), some (.int x4), none]) (st' := [.int (9 : Int32), .ref a0]) (by decide +kernel) rfl rfl ?_
    obtain ⟨v2, e3, e⟩ := bd_inv e
    refine Go.callH (M2 := m_Q_wall) (as := [.ref a0, .int (9 : Int32)]) (rest := []) (v := some (.long v2.1)) (h1 := v2.2) (x_Q_wall hf hI k0 e3) wh_Q_136 (by decide +kernel) rfl rfl ⟨⟨Nat.le_of_ble_eq_true rfl, Nat.le_of_ble_eq_true rfl⟩, ⟨Nat.le_of_ble_eq_true rfl, Nat.le_of_ble_eq_true rfl⟩⟩ (Nat.le_of_ble_eq_true rfl) ?_
    show Go l D ad aC (rmk m_Q_errors) _ m_Q_errors 582 [some (.ref a0), some (.long y1), none, some (.int x3), some (.int x4), none] [.long v2.1] v2.2 42 252
    refine Go.ldc2 lo_Q_21 (by decide +kernel) ?_
    refine Go.run (pc' := 586) [.lcmp] (ls' := [some (.ref a0), some (.long y1), none, some (.int x3), some (.int x4), none]) (st' := [.int (lg_cmp v2.1 (-9000000000000000003 : Int64))]) (by decide +kernel) rfl rfl ?_
    refine Go.if_ne (off := 107) (tgt := 693) (by decide +kernel) (by decide) (fun c4 => ?_) (fun c4 => ?_)
    · replace e := ite_f c4 e
      refine Go.wid (k' := 49) (n' := 294) (by decide) (by decide) ?_
      refine Go.wk' (wks (wks (wks (wkn (wkn (wks wk0)))))) ?_
      exact x_Q_errors_693 hf hI k0 e
    · replace e := ite_t c4 e
      refine Go.wk' (wks (wks (wks (wkn (wks (wks wk0)))))) ?_
      exact x_Q_errors_589 hf hI k0 e
def f_Q_errors_475  (a0 : Nat) (y1 : Int64) (x3 : Int32) (x4 : Int32) (h : HP) : Option (Int32 × HP) :=
  if x4 = 0 then
    f_Q_errors_571 a0 y1 x3 x4 h
  else
    (f_Q_dealerOf h a0 (0 : Int32) (12 : Int32)).bind fun v2 =>
    if (lg_cmp v2.1 (-9000000000000000002 : Int64)) = 0 then
      (f_Q_plugOf v2.2 a0 (0 : Int32) (3 : Int32)).bind fun v5 =>
      if (lg_cmp v5.1 (-9000000000000000002 : Int64)) = 0 then
        (f_Q_swap v5.2 a0 (0 : Int32) (0 : Int32)).bind fun v8 =>
        if (lg_cmp v8.1 (-9000000000000000002 : Int64)) = 0 then
          (f_Q_why v8.2 a0 (0 : Int32) (0 : Int32)).bind fun v11 =>
          if (lg_cmp v11.1 (-9000000000000000002 : Int64)) = 0 then
            (f_Q_cheapest v11.2 a0 (0 : Int32) (2 : Int32)).bind fun v14 =>
            if (lg_cmp v14.1 (-9000000000000000002 : Int64)) = 0 then
              (f_Q_dealerOf v14.2 a0 (0 : Int32) (3 : Int32)).bind fun v17 =>
              if (lg_cmp v17.1 (-1 : Int64)) = 0 then
                (f_Q_leave v17.2 a0 (0 : Int32)).bind fun v20 =>
                if (lg_cmp v20.1 (-9000000000000000003 : Int64)) = 0 then
                  f_Q_errors_571 a0 y1 x3 x4 v20.2
                else
                  f_Q_errors_693 a0 y1 v20.2
              else
                f_Q_errors_571 a0 y1 x3 x4 v17.2
            else
              f_Q_errors_693 a0 y1 v14.2
          else
            f_Q_errors_693 a0 y1 v11.2
        else
          f_Q_errors_693 a0 y1 v8.2
      else
        f_Q_errors_693 a0 y1 v5.2
    else
      f_Q_errors_693 a0 y1 v2.2
set_option maxHeartbeats 4000000 in
theorem x_Q_errors_475 {l : Launch} {D : va_G} {ad : Nat → Nat} {aC : Nat → ClassId} (hf : l.flags = flags0) (hI : Inj ad) {a0 : Nat} {y1 : Int64} {x3 : Int32} {x4 : Int32} {h : HP} {r : Int32 × HP} (k0 : knd a0 = 7) (e : f_Q_errors_475 a0 y1 x3 x4 h = some r) : Go l D ad aC (rmk m_Q_errors) (QM D ad aC m_Q_errors (.inl (some (.int r.1))) r.2) m_Q_errors 475 [some (.ref a0), some (.long y1), none, some (.int x3), some (.int x4), none] [] h 34 204 := by
  unfold f_Q_errors_475 at e
  refine Go.run (pc' := 477) [.iload 4] (ls' := [some (.ref a0), some (.long y1), none, some (.int x3), some (.int x4), none]) (st' := [.int x4]) (by decide +kernel) rfl rfl ?_
  refine Go.if_eq (off := 94) (tgt := 571) (by decide +kernel) (by decide) (fun c1 => ?_) (fun c1 => ?_)
  · replace e := ite_t c1 e
    refine Go.wid (k' := 41) (n' := 246) (by decide) (by decide) ?_
    exact x_Q_errors_571 hf hI k0 e
  · replace e := ite_f c1 e
    refine Go.run (pc' := 484) [.aload_n 0, .iconst 0, .bipush (12)] (ls' := [some (.ref a0), some (.long y1), none, some (.int x3), some (.int x4), none]) (st' := [.int (12 : Int32), .int (0 : Int32), .ref a0]) (by decide +kernel) rfl rfl ?_
    obtain ⟨v2, e3, e⟩ := bd_inv e
    refine Go.callH (M2 := m_Q_dealerOf) (as := [.ref a0, .int (0 : Int32), .int (12 : Int32)]) (rest := []) (v := some (.long v2.1)) (h1 := v2.2) (x_Q_dealerOf hf hI k0 e3) wh_Q_126 (by decide +kernel) rfl rfl ⟨⟨Nat.le_of_ble_eq_true rfl, Nat.le_of_ble_eq_true rfl⟩, ⟨Nat.le_of_ble_eq_true rfl, Nat.le_of_ble_eq_true rfl⟩⟩ (Nat.le_of_ble_eq_true rfl) ?_
    show Go l D ad aC (rmk m_Q_errors) _ m_Q_errors 487 [some (.ref a0), some (.long y1), none, some (.int x3), some (.int x4), none] [.long v2.1] v2.2 35 210
    refine Go.ldc2 lo_Q_17 (by decide +kernel) ?_
    refine Go.run (pc' := 491) [.lcmp] (ls' := [some (.ref a0), some (.long y1), none, some (.int x3), some (.int x4), none]) (st' := [.int (lg_cmp v2.1 (-9000000000000000002 : Int64))]) (by decide +kernel) rfl rfl ?_
    refine Go.if_ne (off := 202) (tgt := 693) (by decide +kernel) (by decide) (fun c4 => ?_) (fun c4 => ?_)
    · replace e := ite_f c4 e
      refine Go.wid (k' := 49) (n' := 294) (by decide) (by decide) ?_
      refine Go.wk' (wks (wks (wks (wkn (wkn (wks wk0)))))) ?_
      exact x_Q_errors_693 hf hI k0 e
    · replace e := ite_t c4 e
      refine Go.run (pc' := 497) [.aload_n 0, .iconst 0, .iconst 3] (ls' := [some (.ref a0), some (.long y1), none, some (.int x3), some (.int x4), none]) (st' := [.int (3 : Int32), .int (0 : Int32), .ref a0]) (by decide +kernel) rfl rfl ?_
      obtain ⟨v5, e6, e⟩ := bd_inv e
      refine Go.callH (M2 := m_Q_plugOf) (as := [.ref a0, .int (0 : Int32), .int (3 : Int32)]) (rest := []) (v := some (.long v5.1)) (h1 := v5.2) (x_Q_plugOf hf hI k0 e6) wh_Q_132 (by decide +kernel) rfl rfl ⟨⟨Nat.le_of_ble_eq_true rfl, Nat.le_of_ble_eq_true rfl⟩, ⟨Nat.le_of_ble_eq_true rfl, Nat.le_of_ble_eq_true rfl⟩⟩ (Nat.le_of_ble_eq_true rfl) ?_
      show Go l D ad aC (rmk m_Q_errors) _ m_Q_errors 500 [some (.ref a0), some (.long y1), none, some (.int x3), some (.int x4), none] [.long v5.1] v5.2 36 216
      refine Go.ldc2 lo_Q_17 (by decide +kernel) ?_
      refine Go.run (pc' := 504) [.lcmp] (ls' := [some (.ref a0), some (.long y1), none, some (.int x3), some (.int x4), none]) (st' := [.int (lg_cmp v5.1 (-9000000000000000002 : Int64))]) (by decide +kernel) rfl rfl ?_
      refine Go.if_ne (off := 189) (tgt := 693) (by decide +kernel) (by decide) (fun c7 => ?_) (fun c7 => ?_)
      · replace e := ite_f c7 e
        refine Go.wid (k' := 49) (n' := 294) (by decide) (by decide) ?_
        refine Go.wk' (wks (wks (wks (wkn (wkn (wks wk0)))))) ?_
        exact x_Q_errors_693 hf hI k0 e
      · replace e := ite_t c7 e
        refine Go.run (pc' := 510) [.aload_n 0, .iconst 0, .iconst 0] (ls' := [some (.ref a0), some (.long y1), none, some (.int x3), some (.int x4), none]) (st' := [.int (0 : Int32), .int (0 : Int32), .ref a0]) (by decide +kernel) rfl rfl ?_
        obtain ⟨v8, e9, e⟩ := bd_inv e
        refine Go.callH (M2 := m_Q_swap) (as := [.ref a0, .int (0 : Int32), .int (0 : Int32)]) (rest := []) (v := some (.long v8.1)) (h1 := v8.2) (x_Q_swap hf hI k0 e9) wh_Q_146 (by decide +kernel) rfl rfl ⟨⟨Nat.le_of_ble_eq_true rfl, Nat.le_of_ble_eq_true rfl⟩, ⟨Nat.le_of_ble_eq_true rfl, Nat.le_of_ble_eq_true rfl⟩⟩ (Nat.le_of_ble_eq_true rfl) ?_
        show Go l D ad aC (rmk m_Q_errors) _ m_Q_errors 513 [some (.ref a0), some (.long y1), none, some (.int x3), some (.int x4), none] [.long v8.1] v8.2 37 222
        refine Go.ldc2 lo_Q_17 (by decide +kernel) ?_
        refine Go.run (pc' := 517) [.lcmp] (ls' := [some (.ref a0), some (.long y1), none, some (.int x3), some (.int x4), none]) (st' := [.int (lg_cmp v8.1 (-9000000000000000002 : Int64))]) (by decide +kernel) rfl rfl ?_
        refine Go.if_ne (off := 176) (tgt := 693) (by decide +kernel) (by decide) (fun c10 => ?_) (fun c10 => ?_)
        · replace e := ite_f c10 e
          refine Go.wid (k' := 49) (n' := 294) (by decide) (by decide) ?_
          refine Go.wk' (wks (wks (wks (wkn (wkn (wks wk0)))))) ?_
          exact x_Q_errors_693 hf hI k0 e
        · replace e := ite_t c10 e
          refine Go.run (pc' := 523) [.aload_n 0, .iconst 0, .iconst 0] (ls' := [some (.ref a0), some (.long y1), none, some (.int x3), some (.int x4), none]) (st' := [.int (0 : Int32), .int (0 : Int32), .ref a0]) (by decide +kernel) rfl rfl ?_
          obtain ⟨v11, e12, e⟩ := bd_inv e
          refine Go.callH (M2 := m_Q_why) (as := [.ref a0, .int (0 : Int32), .int (0 : Int32)]) (rest := []) (v := some (.long v11.1)) (h1 := v11.2) (x_Q_why hf hI k0 e12) wh_Q_158 (by decide +kernel) rfl rfl ⟨⟨Nat.le_of_ble_eq_true rfl, Nat.le_of_ble_eq_true rfl⟩, ⟨Nat.le_of_ble_eq_true rfl, Nat.le_of_ble_eq_true rfl⟩⟩ (Nat.le_of_ble_eq_true rfl) ?_
          show Go l D ad aC (rmk m_Q_errors) _ m_Q_errors 526 [some (.ref a0), some (.long y1), none, some (.int x3), some (.int x4), none] [.long v11.1] v11.2 38 228
          refine Go.ldc2 lo_Q_17 (by decide +kernel) ?_
          refine Go.run (pc' := 530) [.lcmp] (ls' := [some (.ref a0), some (.long y1), none, some (.int x3), some (.int x4), none]) (st' := [.int (lg_cmp v11.1 (-9000000000000000002 : Int64))]) (by decide +kernel) rfl rfl ?_
          refine Go.if_ne (off := 163) (tgt := 693) (by decide +kernel) (by decide) (fun c13 => ?_) (fun c13 => ?_)
          · replace e := ite_f c13 e
            refine Go.wid (k' := 49) (n' := 294) (by decide) (by decide) ?_
            refine Go.wk' (wks (wks (wks (wkn (wkn (wks wk0)))))) ?_
            exact x_Q_errors_693 hf hI k0 e
          · replace e := ite_t c13 e
            refine Go.run (pc' := 536) [.aload_n 0, .iconst 0, .iconst 2] (ls' := [some (.ref a0), some (.long y1), none, some (.int x3), some (.int x4), none]) (st' := [.int (2 : Int32), .int (0 : Int32), .ref a0]) (by decide +kernel) rfl rfl ?_
            obtain ⟨v14, e15, e⟩ := bd_inv e
            refine Go.callH (M2 := m_Q_cheapest) (as := [.ref a0, .int (0 : Int32), .int (2 : Int32)]) (rest := []) (v := some (.long v14.1)) (h1 := v14.2) (x_Q_cheapest hf hI k0 e15) wh_Q_154 (by decide +kernel) rfl rfl ⟨⟨Nat.le_of_ble_eq_true rfl, Nat.le_of_ble_eq_true rfl⟩, ⟨Nat.le_of_ble_eq_true rfl, Nat.le_of_ble_eq_true rfl⟩⟩ (Nat.le_of_ble_eq_true rfl) ?_
            show Go l D ad aC (rmk m_Q_errors) _ m_Q_errors 539 [some (.ref a0), some (.long y1), none, some (.int x3), some (.int x4), none] [.long v14.1] v14.2 39 234
            refine Go.ldc2 lo_Q_17 (by decide +kernel) ?_
            refine Go.run (pc' := 543) [.lcmp] (ls' := [some (.ref a0), some (.long y1), none, some (.int x3), some (.int x4), none]) (st' := [.int (lg_cmp v14.1 (-9000000000000000002 : Int64))]) (by decide +kernel) rfl rfl ?_
            refine Go.if_ne (off := 150) (tgt := 693) (by decide +kernel) (by decide) (fun c16 => ?_) (fun c16 => ?_)
            · replace e := ite_f c16 e
              refine Go.wid (k' := 49) (n' := 294) (by decide) (by decide) ?_
              refine Go.wk' (wks (wks (wks (wkn (wkn (wks wk0)))))) ?_
              exact x_Q_errors_693 hf hI k0 e
            · replace e := ite_t c16 e
              refine Go.run (pc' := 549) [.aload_n 0, .iconst 0, .iconst 3] (ls' := [some (.ref a0), some (.long y1), none, some (.int x3), some (.int x4), none]) (st' := [.int (3 : Int32), .int (0 : Int32), .ref a0]) (by decide +kernel) rfl rfl ?_
              obtain ⟨v17, e18, e⟩ := bd_inv e
              refine Go.callH (M2 := m_Q_dealerOf) (as := [.ref a0, .int (0 : Int32), .int (3 : Int32)]) (rest := []) (v := some (.long v17.1)) (h1 := v17.2) (x_Q_dealerOf hf hI k0 e18) wh_Q_126 (by decide +kernel) rfl rfl ⟨⟨Nat.le_of_ble_eq_true rfl, Nat.le_of_ble_eq_true rfl⟩, ⟨Nat.le_of_ble_eq_true rfl, Nat.le_of_ble_eq_true rfl⟩⟩ (Nat.le_of_ble_eq_true rfl) ?_
              show Go l D ad aC (rmk m_Q_errors) _ m_Q_errors 552 [some (.ref a0), some (.long y1), none, some (.int x3), some (.int x4), none] [.long v17.1] v17.2 40 240
              refine Go.ldc2 lo_Q_160 (by decide +kernel) ?_
              refine Go.run (pc' := 556) [.lcmp] (ls' := [some (.ref a0), some (.long y1), none, some (.int x3), some (.int x4), none]) (st' := [.int (lg_cmp v17.1 (-1 : Int64))]) (by decide +kernel) rfl rfl ?_
              refine Go.if_ne (off := 15) (tgt := 571) (by decide +kernel) (by decide) (fun c19 => ?_) (fun c19 => ?_)
              · replace e := ite_f c19 e
                refine Go.wid (k' := 41) (n' := 246) (by decide) (by decide) ?_
                exact x_Q_errors_571 hf hI k0 e
              · replace e := ite_t c19 e
                refine Go.run (pc' := 561) [.aload_n 0, .iconst 0] (ls' := [some (.ref a0), some (.long y1), none, some (.int x3), some (.int x4), none]) (st' := [.int (0 : Int32), .ref a0]) (by decide +kernel) rfl rfl ?_
                obtain ⟨v20, e21, e⟩ := bd_inv e
                refine Go.callH (M2 := m_Q_leave) (as := [.ref a0, .int (0 : Int32)]) (rest := []) (v := some (.long v20.1)) (h1 := v20.2) (x_Q_leave hf hI k0 e21) wh_Q_144 (by decide +kernel) rfl rfl ⟨⟨Nat.le_of_ble_eq_true rfl, Nat.le_of_ble_eq_true rfl⟩, ⟨Nat.le_of_ble_eq_true rfl, Nat.le_of_ble_eq_true rfl⟩⟩ (Nat.le_of_ble_eq_true rfl) ?_
                show Go l D ad aC (rmk m_Q_errors) _ m_Q_errors 564 [some (.ref a0), some (.long y1), none, some (.int x3), some (.int x4), none] [.long v20.1] v20.2 41 246
                refine Go.ldc2 lo_Q_21 (by decide +kernel) ?_
                refine Go.run (pc' := 568) [.lcmp] (ls' := [some (.ref a0), some (.long y1), none, some (.int x3), some (.int x4), none]) (st' := [.int (lg_cmp v20.1 (-9000000000000000003 : Int64))]) (by decide +kernel) rfl rfl ?_
                refine Go.if_ne (off := 125) (tgt := 693) (by decide +kernel) (by decide) (fun c22 => ?_) (fun c22 => ?_)
                · replace e := ite_f c22 e
                  refine Go.wid (k' := 49) (n' := 294) (by decide) (by decide) ?_
                  refine Go.wk' (wks (wks (wks (wkn (wkn (wks wk0)))))) ?_
                  exact x_Q_errors_693 hf hI k0 e
                · replace e := ite_t c22 e
                  exact x_Q_errors_571 hf hI k0 e
def f_Q_errors_380  (a0 : Nat) (y1 : Int64) (x3 : Int32) (x4 : Int32) (s0 : Int32) (h : HP) : Option (Int32 × HP) :=
  if s0 = 0 then
    f_Q_errors_693 a0 y1 h
  else
    if x3 = 0 then
      f_Q_errors_475 a0 y1 x3 x4 h
    else
      (f_Q_wallOf h a0 (0 : Int32) (6 : Int32)).bind fun v3 =>
      if (lg_cmp v3.1 (-9000000000000000002 : Int64)) = 0 then
        (f_Q_metreOf v3.2 a0 (0 : Int32) (30 : Int32) (0 : Int32)).bind fun v6 =>
        if (lg_cmp v6.1 (-9000000000000000001 : Int64)) = 0 then
          (f_Q_metreOf v6.2 a0 (0 : Int32) (0 : Int32) (3 : Int32)).bind fun v9 =>
          if (lg_cmp v9.1 (-9000000000000000002 : Int64)) = 0 then
            (f_Q_outlet v9.2 a0 (0 : Int32) (0 : Int32) (5 : Int32)).bind fun v12 =>
            if (lg_cmp v12.1 (-9000000000000000002 : Int64)) = 0 then
              (f_Q_outlet v12.2 a0 (0 : Int32) (-1 : Int32) (0 : Int32)).bind fun v15 =>
              if (lg_cmp v15.1 (-9000000000000000001 : Int64)) = 0 then
                (f_Q_free v15.2 a0 (0 : Int32) (2 : Int32)).bind fun v18 =>
                if (lg_cmp v18.1 (-9000000000000000002 : Int64)) = 0 then
                  f_Q_errors_475 a0 y1 x3 x4 v18.2
                else
                  f_Q_errors_693 a0 y1 v18.2
              else
                f_Q_errors_693 a0 y1 v15.2
            else
              f_Q_errors_693 a0 y1 v12.2
          else
            f_Q_errors_693 a0 y1 v9.2
        else
          f_Q_errors_693 a0 y1 v6.2
      else
        f_Q_errors_693 a0 y1 v3.2
set_option maxHeartbeats 4000000 in
theorem x_Q_errors_380 {l : Launch} {D : va_G} {ad : Nat → Nat} {aC : Nat → ClassId} (hf : l.flags = flags0) (hI : Inj ad) {a0 : Nat} {y1 : Int64} {x3 : Int32} {x4 : Int32} {s0 : Int32} {h : HP} {r : Int32 × HP} (k0 : knd a0 = 7) (e : f_Q_errors_380 a0 y1 x3 x4 s0 h = some r) : Go l D ad aC (rmk m_Q_errors) (QM D ad aC m_Q_errors (.inl (some (.int r.1))) r.2) m_Q_errors 380 [some (.ref a0), some (.long y1), none, some (.int x3), some (.int x4), none] [.int s0] h 28 168 := by
  unfold f_Q_errors_380 at e
  refine Go.run (pc' := 384) [.istore 5, .iload 5] (ls' := [some (.ref a0), some (.long y1), none, some (.int x3), some (.int x4), some (.int s0)]) (st' := [.int s0]) (by decide +kernel) rfl rfl ?_
  refine Go.if_eq (off := 309) (tgt := 693) (by decide +kernel) (by decide) (fun c1 => ?_) (fun c1 => ?_)
  · replace e := ite_t c1 e
    refine Go.wid (k' := 49) (n' := 294) (by decide) (by decide) ?_
    refine Go.wk' (wks (wks (wks (wkn (wkn (wkn wk0)))))) ?_
    exact x_Q_errors_693 hf hI k0 e
  · replace e := ite_f c1 e
    refine Go.run (pc' := 388) [.iload_n 3] (ls' := [some (.ref a0), some (.long y1), none, some (.int x3), some (.int x4), some (.int s0)]) (st' := [.int x3]) (by decide +kernel) rfl rfl ?_
    refine Go.if_eq (off := 87) (tgt := 475) (by decide +kernel) (by decide) (fun c2 => ?_) (fun c2 => ?_)
    · replace e := ite_t c2 e
      refine Go.wid (k' := 34) (n' := 204) (by decide) (by decide) ?_
      refine Go.wk' (wks (wks (wks (wks (wks (wkn wk0)))))) ?_
      exact x_Q_errors_475 hf hI k0 e
    · replace e := ite_f c2 e
      refine Go.run (pc' := 395) [.aload_n 0, .iconst 0, .bipush (6)] (ls' := [some (.ref a0), some (.long y1), none, some (.int x3), some (.int x4), some (.int s0)]) (st' := [.int (6 : Int32), .int (0 : Int32), .ref a0]) (by decide +kernel) rfl rfl ?_
      obtain ⟨v3, e4, e⟩ := bd_inv e
      refine Go.callH (M2 := m_Q_wallOf) (as := [.ref a0, .int (0 : Int32), .int (6 : Int32)]) (rest := []) (v := some (.long v3.1)) (h1 := v3.2) (x_Q_wallOf hf hI k0 e4) wh_Q_120 (by decide +kernel) rfl rfl ⟨⟨Nat.le_of_ble_eq_true rfl, Nat.le_of_ble_eq_true rfl⟩, ⟨Nat.le_of_ble_eq_true rfl, Nat.le_of_ble_eq_true rfl⟩⟩ (Nat.le_of_ble_eq_true rfl) ?_
      show Go l D ad aC (rmk m_Q_errors) _ m_Q_errors 398 [some (.ref a0), some (.long y1), none, some (.int x3), some (.int x4), some (.int s0)] [.long v3.1] v3.2 29 174
      refine Go.ldc2 lo_Q_17 (by decide +kernel) ?_
      refine Go.run (pc' := 402) [.lcmp] (ls' := [some (.ref a0), some (.long y1), none, some (.int x3), some (.int x4), some (.int s0)]) (st' := [.int (lg_cmp v3.1 (-9000000000000000002 : Int64))]) (by decide +kernel) rfl rfl ?_
      refine Go.if_ne (off := 291) (tgt := 693) (by decide +kernel) (by decide) (fun c5 => ?_) (fun c5 => ?_)
      · replace e := ite_f c5 e
        refine Go.wid (k' := 49) (n' := 294) (by decide) (by decide) ?_
        refine Go.wk' (wks (wks (wks (wkn (wkn (wkn wk0)))))) ?_
        exact x_Q_errors_693 hf hI k0 e
      · replace e := ite_t c5 e
        refine Go.run (pc' := 410) [.aload_n 0, .iconst 0, .bipush (30), .iconst 0] (ls' := [some (.ref a0), some (.long y1), none, some (.int x3), some (.int x4), some (.int s0)]) (st' := [.int (0 : Int32), .int (30 : Int32), .int (0 : Int32), .ref a0]) (by decide +kernel) rfl rfl ?_
        obtain ⟨v6, e7, e⟩ := bd_inv e
        refine Go.callH (M2 := m_Q_metreOf) (as := [.ref a0, .int (0 : Int32), .int (30 : Int32), .int (0 : Int32)]) (rest := []) (v := some (.long v6.1)) (h1 := v6.2) (x_Q_metreOf hf hI k0 e7) wh_Q_123 (by decide +kernel) rfl rfl ⟨⟨Nat.le_of_ble_eq_true rfl, Nat.le_of_ble_eq_true rfl⟩, ⟨Nat.le_of_ble_eq_true rfl, Nat.le_of_ble_eq_true rfl⟩⟩ (Nat.le_of_ble_eq_true rfl) ?_
        show Go l D ad aC (rmk m_Q_errors) _ m_Q_errors 413 [some (.ref a0), some (.long y1), none, some (.int x3), some (.int x4), some (.int s0)] [.long v6.1] v6.2 30 180
        refine Go.ldc2 lo_Q_36 (by decide +kernel) ?_
        refine Go.run (pc' := 417) [.lcmp] (ls' := [some (.ref a0), some (.long y1), none, some (.int x3), some (.int x4), some (.int s0)]) (st' := [.int (lg_cmp v6.1 (-9000000000000000001 : Int64))]) (by decide +kernel) rfl rfl ?_
        refine Go.if_ne (off := 276) (tgt := 693) (by decide +kernel) (by decide) (fun c8 => ?_) (fun c8 => ?_)
        · replace e := ite_f c8 e
          refine Go.wid (k' := 49) (n' := 294) (by decide) (by decide) ?_
          refine Go.wk' (wks (wks (wks (wkn (wkn (wkn wk0)))))) ?_
          exact x_Q_errors_693 hf hI k0 e
        · replace e := ite_t c8 e
          refine Go.run (pc' := 424) [.aload_n 0, .iconst 0, .iconst 0, .iconst 3] (ls' := [some (.ref a0), some (.long y1), none, some (.int x3), some (.int x4), some (.int s0)]) (st' := [.int (3 : Int32), .int (0 : Int32), .int (0 : Int32), .ref a0]) (by decide +kernel) rfl rfl ?_
          obtain ⟨v9, e10, e⟩ := bd_inv e
          refine Go.callH (M2 := m_Q_metreOf) (as := [.ref a0, .int (0 : Int32), .int (0 : Int32), .int (3 : Int32)]) (rest := []) (v := some (.long v9.1)) (h1 := v9.2) (x_Q_metreOf hf hI k0 e10) wh_Q_123 (by decide +kernel) rfl rfl ⟨⟨Nat.le_of_ble_eq_true rfl, Nat.le_of_ble_eq_true rfl⟩, ⟨Nat.le_of_ble_eq_true rfl, Nat.le_of_ble_eq_true rfl⟩⟩ (Nat.le_of_ble_eq_true rfl) ?_
          show Go l D ad aC (rmk m_Q_errors) _ m_Q_errors 427 [some (.ref a0), some (.long y1), none, some (.int x3), some (.int x4), some (.int s0)] [.long v9.1] v9.2 31 186
          refine Go.ldc2 lo_Q_17 (by decide +kernel) ?_
          refine Go.run (pc' := 431) [.lcmp] (ls' := [some (.ref a0), some (.long y1), none, some (.int x3), some (.int x4), some (.int s0)]) (st' := [.int (lg_cmp v9.1 (-9000000000000000002 : Int64))]) (by decide +kernel) rfl rfl ?_
          refine Go.if_ne (off := 262) (tgt := 693) (by decide +kernel) (by decide) (fun c11 => ?_) (fun c11 => ?_)
          · replace e := ite_f c11 e
            refine Go.wid (k' := 49) (n' := 294) (by decide) (by decide) ?_
            refine Go.wk' (wks (wks (wks (wkn (wkn (wkn wk0)))))) ?_
            exact x_Q_errors_693 hf hI k0 e
          · replace e := ite_t c11 e
            refine Go.run (pc' := 438) [.aload_n 0, .iconst 0, .iconst 0, .iconst 5] (ls' := [some (.ref a0), some (.long y1), none, some (.int x3), some (.int x4), some (.int s0)]) (st' := [.int (5 : Int32), .int (0 : Int32), .int (0 : Int32), .ref a0]) (by decide +kernel) rfl rfl ?_
            obtain ⟨v12, e13, e⟩ := bd_inv e
            refine Go.callH (M2 := m_Q_outlet) (as := [.ref a0, .int (0 : Int32), .int (0 : Int32), .int (5 : Int32)]) (rest := []) (v := some (.long v12.1)) (h1 := v12.2) (x_Q_outlet hf hI k0 e13) wh_Q_138 (by decide +kernel) rfl rfl ⟨⟨Nat.le_of_ble_eq_true rfl, Nat.le_of_ble_eq_true rfl⟩, ⟨Nat.le_of_ble_eq_true rfl, Nat.le_of_ble_eq_true rfl⟩⟩ (Nat.le_of_ble_eq_true rfl) ?_
            show Go l D ad aC (rmk m_Q_errors) _ m_Q_errors 441 [some (.ref a0), some (.long y1), none, some (.int x3), some (.int x4), some (.int s0)] [.long v12.1] v12.2 32 192
            refine Go.ldc2 lo_Q_17 (by decide +kernel) ?_
            refine Go.run (pc' := 445) [.lcmp] (ls' := [some (.ref a0), some (.long y1), none, some (.int x3), some (.int x4), some (.int s0)]) (st' := [.int (lg_cmp v12.1 (-9000000000000000002 : Int64))]) (by decide +kernel) rfl rfl ?_
            refine Go.if_ne (off := 248) (tgt := 693) (by decide +kernel) (by decide) (fun c14 => ?_) (fun c14 => ?_)
            · replace e := ite_f c14 e
              refine Go.wid (k' := 49) (n' := 294) (by decide) (by decide) ?_
              refine Go.wk' (wks (wks (wks (wkn (wkn (wkn wk0)))))) ?_
              exact x_Q_errors_693 hf hI k0 e
            · replace e := ite_t c14 e
              refine Go.run (pc' := 452) [.aload_n 0, .iconst 0, .iconst (-1), .iconst 0] (ls' := [some (.ref a0), some (.long y1), none, some (.int x3), some (.int x4), some (.int s0)]) (st' := [.int (0 : Int32), .int (-1 : Int32), .int (0 : Int32), .ref a0]) (by decide +kernel) rfl rfl ?_
              obtain ⟨v15, e16, e⟩ := bd_inv e
              refine Go.callH (M2 := m_Q_outlet) (as := [.ref a0, .int (0 : Int32), .int (-1 : Int32), .int (0 : Int32)]) (rest := []) (v := some (.long v15.1)) (h1 := v15.2) (x_Q_outlet hf hI k0 e16) wh_Q_138 (by decide +kernel) rfl rfl ⟨⟨Nat.le_of_ble_eq_true rfl, Nat.le_of_ble_eq_true rfl⟩, ⟨Nat.le_of_ble_eq_true rfl, Nat.le_of_ble_eq_true rfl⟩⟩ (Nat.le_of_ble_eq_true rfl) ?_
              show Go l D ad aC (rmk m_Q_errors) _ m_Q_errors 455 [some (.ref a0), some (.long y1), none, some (.int x3), some (.int x4), some (.int s0)] [.long v15.1] v15.2 33 198
              refine Go.ldc2 lo_Q_36 (by decide +kernel) ?_
              refine Go.run (pc' := 459) [.lcmp] (ls' := [some (.ref a0), some (.long y1), none, some (.int x3), some (.int x4), some (.int s0)]) (st' := [.int (lg_cmp v15.1 (-9000000000000000001 : Int64))]) (by decide +kernel) rfl rfl ?_
              refine Go.if_ne (off := 234) (tgt := 693) (by decide +kernel) (by decide) (fun c17 => ?_) (fun c17 => ?_)
              · replace e := ite_f c17 e
                refine Go.wid (k' := 49) (n' := 294) (by decide) (by decide) ?_
                refine Go.wk' (wks (wks (wks (wkn (wkn (wkn wk0)))))) ?_
                exact x_Q_errors_693 hf hI k0 e
              · replace e := ite_t c17 e
                refine Go.run (pc' := 465) [.aload_n 0, .iconst 0, .iconst 2] (ls' := [some (.ref a0), some (.long y1), none, some (.int x3), some (.int x4), some (.int s0)]) (st' := [.int (2 : Int32), .int (0 : Int32), .ref a0]) (by decide +kernel) rfl rfl ?_
                obtain ⟨v18, e19, e⟩ := bd_inv e
                refine Go.callH (M2 := m_Q_free) (as := [.ref a0, .int (0 : Int32), .int (2 : Int32)]) (rest := []) (v := some (.long v18.1)) (h1 := v18.2) (x_Q_free hf hI k0 e19) wh_Q_134 (by decide +kernel) rfl rfl ⟨⟨Nat.le_of_ble_eq_true rfl, Nat.le_of_ble_eq_true rfl⟩, ⟨Nat.le_of_ble_eq_true rfl, Nat.le_of_ble_eq_true rfl⟩⟩ (Nat.le_of_ble_eq_true rfl) ?_
                show Go l D ad aC (rmk m_Q_errors) _ m_Q_errors 468 [some (.ref a0), some (.long y1), none, some (.int x3), some (.int x4), some (.int s0)] [.long v18.1] v18.2 34 204
                refine Go.ldc2 lo_Q_17 (by decide +kernel) ?_
                refine Go.run (pc' := 472) [.lcmp] (ls' := [some (.ref a0), some (.long y1), none, some (.int x3), some (.int x4), some (.int s0)]) (st' := [.int (lg_cmp v18.1 (-9000000000000000002 : Int64))]) (by decide +kernel) rfl rfl ?_
                refine Go.if_ne (off := 221) (tgt := 693) (by decide +kernel) (by decide) (fun c20 => ?_) (fun c20 => ?_)
                · replace e := ite_f c20 e
                  refine Go.wid (k' := 49) (n' := 294) (by decide) (by decide) ?_
                  refine Go.wk' (wks (wks (wks (wkn (wkn (wkn wk0)))))) ?_
                  exact x_Q_errors_693 hf hI k0 e
                · replace e := ite_t c20 e
                  refine Go.wk' (wks (wks (wks (wks (wks (wkn wk0)))))) ?_
                  exact x_Q_errors_475 hf hI k0 e
def f_Q_errors_379  (a0 : Nat) (y1 : Int64) (x3 : Int32) (x4 : Int32) (h : HP) : Option (Int32 × HP) :=
  f_Q_errors_380 a0 y1 x3 x4 (0 : Int32) h
set_option maxHeartbeats 4000000 in
theorem x_Q_errors_379 {l : Launch} {D : va_G} {ad : Nat → Nat} {aC : Nat → ClassId} (hf : l.flags = flags0) (hI : Inj ad) {a0 : Nat} {y1 : Int64} {x3 : Int32} {x4 : Int32} {h : HP} {r : Int32 × HP} (k0 : knd a0 = 7) (e : f_Q_errors_379 a0 y1 x3 x4 h = some r) : Go l D ad aC (rmk m_Q_errors) (QM D ad aC m_Q_errors (.inl (some (.int r.1))) r.2) m_Q_errors 379 [some (.ref a0), some (.long y1), none, some (.int x3), some (.int x4), none] [] h 28 168 := by
  unfold f_Q_errors_379 at e
  refine Go.run (pc' := 380) [.iconst 0] (ls' := [some (.ref a0), some (.long y1), none, some (.int x3), some (.int x4), none]) (st' := [.int (0 : Int32)]) (by decide +kernel) rfl rfl ?_
  exact x_Q_errors_380 hf hI k0 e
def f_Q_errors (h : HP) (a0 : Nat) : Option (Int32 × HP) :=
  (f_Q_now h a0).bind fun v1 =>
  (f_Q_about v1.2 a0 (0 : Int32)).bind fun v3 =>
  (f_Q_about v3.2 a0 (1 : Int32)).bind fun v5 =>
  (f_Q_about v5.2 a0 (-1 : Int32)).bind fun v7 =>
  if (lg_cmp v7.1 (-9000000000000000002 : Int64)) = 0 then
    (f_Q_about v7.2 a0 (14 : Int32)).bind fun v10 =>
    if (lg_cmp v10.1 (-9000000000000000002 : Int64)) = 0 then
      (f_Q_wallOf v10.2 a0 v3.1.toInt32 (6 : Int32)).bind fun v13 =>
      if (lg_cmp v13.1 (-9000000000000000001 : Int64)) = 0 then
        (f_Q_metreOf v13.2 a0 v3.1.toInt32 (0 : Int32) (3 : Int32)).bind fun v16 =>
        if (lg_cmp v16.1 (-9000000000000000001 : Int64)) = 0 then
          (f_Q_dealerOf v16.2 a0 v5.1.toInt32 (12 : Int32)).bind fun v19 =>
          if (lg_cmp v19.1 (-9000000000000000001 : Int64)) = 0 then
            (f_Q_dealerOf v19.2 a0 (-1 : Int32) (0 : Int32)).bind fun v22 =>
            if (lg_cmp v22.1 (-9000000000000000001 : Int64)) = 0 then
              (f_Q_plugOf v22.2 a0 v5.1.toInt32 (3 : Int32)).bind fun v25 =>
              if (lg_cmp v25.1 (-9000000000000000001 : Int64)) = 0 then
                (f_Q_setting v25.2 a0 (6 : Int32)).bind fun v28 =>
                if (lg_cmp v28.1 (-9000000000000000002 : Int64)) = 0 then
                  (f_Q_free v28.2 a0 v3.1.toInt32 (2 : Int32)).bind fun v31 =>
                  if (lg_cmp v31.1 (-9000000000000000001 : Int64)) = 0 then
                    (f_Q_wall v31.2 a0 (3 : Int32)).bind fun v34 =>
                    if (lg_cmp v34.1 (-9000000000000000002 : Int64)) = 0 then
                      (f_Q_outlet v34.2 a0 v3.1.toInt32 (0 : Int32) (5 : Int32)).bind fun v37 =>
                      if (lg_cmp v37.1 (-9000000000000000001 : Int64)) = 0 then
                        (f_Q_dealer v37.2 a0 (-1 : Int32) (1 : Int32) (0 : Int32)).bind fun v40 =>
                        if (lg_cmp v40.1 (-9000000000000000002 : Int64)) = 0 then
                          (f_Q_dealer v40.2 a0 (0 : Int32) (0 : Int32) (0 : Int32)).bind fun v43 =>
                          if (lg_cmp v43.1 (-9000000000000000002 : Int64)) = 0 then
                            (f_Q_dealer v43.2 a0 (0 : Int32) (1 : Int32) (4 : Int32)).bind fun v46 =>
                            if (lg_cmp v46.1 (-9000000000000000002 : Int64)) = 0 then
                              (f_Q_place v46.2 a0 v5.1.toInt32 (0 : Int32) (0 : Int32)).bind fun v49 =>
                              if (lg_cmp v49.1 (-9000000000000000001 : Int64)) = 0 then
                                (f_Q_place v49.2 a0 (0 : Int32) v3.1.toInt32 (0 : Int32)).bind fun v52 =>
                                if (lg_cmp v52.1 (-9000000000000000001 : Int64)) = 0 then
                                  (f_Q_leave v52.2 a0 v5.1.toInt32).bind fun v55 =>
                                  if (lg_cmp v55.1 (-9000000000000000001 : Int64)) = 0 then
                                    (f_Q_swap v55.2 a0 v5.1.toInt32 v5.1.toInt32).bind fun v58 =>
                                    if (lg_cmp v58.1 (-9000000000000000001 : Int64)) = 0 then
                                      (f_Q_days v58.2 a0 (0 : Int32)).bind fun v61 =>
                                      if (lg_cmp v61.1 (-9000000000000000002 : Int64)) = 0 then
                                        (f_Q_set v61.2 a0 (1 : Int32) (10 : Int32)).bind fun v64 =>
                                        if (lg_cmp v64.1 (-9000000000000000002 : Int64)) = 0 then
                                          (f_Q_set v64.2 a0 (0 : Int32) (51 : Int32)).bind fun v67 =>
                                          if (lg_cmp v67.1 (-9000000000000000002 : Int64)) = 0 then
                                            (f_Q_set v67.2 a0 (6 : Int32) (0 : Int32)).bind fun v70 =>
                                            if (lg_cmp v70.1 (-9000000000000000002 : Int64)) = 0 then
                                              (f_Q_rentIf v70.2 a0 v5.1.toInt32 (0 : Int32) (0 : Int32)).bind fun v73 =>
                                              if (lg_cmp v73.1 (-9000000000000000001 : Int64)) = 0 then
                                                (f_Q_cheapest v73.2 a0 v5.1.toInt32 (2 : Int32)).bind fun v76 =>
                                                if (lg_cmp v76.1 (-9000000000000000001 : Int64)) = 0 then
                                                  (f_Q_bestSwap v76.2 a0 (2 : Int32)).bind fun v79 =>
                                                  if (lg_cmp v79.1 (-9000000000000000002 : Int64)) = 0 then
                                                    (f_Q_why v79.2 a0 v5.1.toInt32 (0 : Int32)).bind fun v82 =>
                                                    if (lg_cmp v82.1 (-9000000000000000001 : Int64)) = 0 then
                                                      f_Q_errors_380 a0 v1.1 v3.1.toInt32 v5.1.toInt32 (1 : Int32) v82.2
                                                    else
                                                      f_Q_errors_379 a0 v1.1 v3.1.toInt32 v5.1.toInt32 v82.2
                                                  else
                                                    f_Q_errors_379 a0 v1.1 v3.1.toInt32 v5.1.toInt32 v79.2
                                                else
                                                  f_Q_errors_379 a0 v1.1 v3.1.toInt32 v5.1.toInt32 v76.2
                                              else
                                                f_Q_errors_379 a0 v1.1 v3.1.toInt32 v5.1.toInt32 v73.2
                                            else
                                              f_Q_errors_379 a0 v1.1 v3.1.toInt32 v5.1.toInt32 v70.2
                                          else
                                            f_Q_errors_379 a0 v1.1 v3.1.toInt32 v5.1.toInt32 v67.2
                                        else
                                          f_Q_errors_379 a0 v1.1 v3.1.toInt32 v5.1.toInt32 v64.2
                                      else
                                        f_Q_errors_379 a0 v1.1 v3.1.toInt32 v5.1.toInt32 v61.2
                                    else
                                      f_Q_errors_379 a0 v1.1 v3.1.toInt32 v5.1.toInt32 v58.2
                                  else
                                    f_Q_errors_379 a0 v1.1 v3.1.toInt32 v5.1.toInt32 v55.2
                                else
                                  f_Q_errors_379 a0 v1.1 v3.1.toInt32 v5.1.toInt32 v52.2
                              else
                                f_Q_errors_379 a0 v1.1 v3.1.toInt32 v5.1.toInt32 v49.2
                            else
                              f_Q_errors_379 a0 v1.1 v3.1.toInt32 v5.1.toInt32 v46.2
                          else
                            f_Q_errors_379 a0 v1.1 v3.1.toInt32 v5.1.toInt32 v43.2
                        else
                          f_Q_errors_379 a0 v1.1 v3.1.toInt32 v5.1.toInt32 v40.2
                      else
                        f_Q_errors_379 a0 v1.1 v3.1.toInt32 v5.1.toInt32 v37.2
                    else
                      f_Q_errors_379 a0 v1.1 v3.1.toInt32 v5.1.toInt32 v34.2
                  else
                    f_Q_errors_379 a0 v1.1 v3.1.toInt32 v5.1.toInt32 v31.2
                else
                  f_Q_errors_379 a0 v1.1 v3.1.toInt32 v5.1.toInt32 v28.2
              else
                f_Q_errors_379 a0 v1.1 v3.1.toInt32 v5.1.toInt32 v25.2
            else
              f_Q_errors_379 a0 v1.1 v3.1.toInt32 v5.1.toInt32 v22.2
          else
            f_Q_errors_379 a0 v1.1 v3.1.toInt32 v5.1.toInt32 v19.2
        else
          f_Q_errors_379 a0 v1.1 v3.1.toInt32 v5.1.toInt32 v16.2
      else
        f_Q_errors_379 a0 v1.1 v3.1.toInt32 v5.1.toInt32 v13.2
    else
      f_Q_errors_379 a0 v1.1 v3.1.toInt32 v5.1.toInt32 v10.2
  else
    f_Q_errors_379 a0 v1.1 v3.1.toInt32 v5.1.toInt32 v7.2
set_option maxHeartbeats 4000000 in
theorem x_Q_errors {l : Launch} {D : va_G} {ad : Nat → Nat} {aC : Nat → ClassId} (hf : l.flags = flags0) (hI : Inj ad) {h : HP} {a0 : Nat} {r : Int32 × HP} (k0 : knd a0 = 7) (e : f_Q_errors h a0 = some r) : CT l D ad aC m_Q_errors [.ref a0] h (.inl (some (.int r.1))) r.2 := by
  refine CT.ofGo (by decide +kernel) rfl (Nat.le_of_ble_eq_true rfl) ?_
  unfold f_Q_errors at e
  show Go l D ad aC (rmk m_Q_errors) _ m_Q_errors 0 [some (.ref a0), none, none, none, none, none] [] h 0 0
  refine Go.run (pc' := 1) [.aload_n 0] (ls' := [some (.ref a0), none, none, none, none, none]) (st' := [.ref a0]) (by decide +kernel) rfl rfl ?_
  obtain ⟨v1, e2, e⟩ := bd_inv e
  refine Go.callS (M2 := m_Q_now) (as := [.ref a0]) (rest := []) (v := some (.long v1.1)) (h1 := v1.2) (x_Q_now hf hI k0 e2) ws_Q_128 (by decide +kernel) rfl rfl ⟨⟨Nat.le_of_ble_eq_true rfl, Nat.le_of_ble_eq_true rfl⟩, ⟨Nat.le_of_ble_eq_true rfl, Nat.le_of_ble_eq_true rfl⟩⟩ (Nat.le_of_ble_eq_true rfl) ?_
  show Go l D ad aC (rmk m_Q_errors) _ m_Q_errors 4 [some (.ref a0), none, none, none, none, none] [.long v1.1] v1.2 0 0
  refine Go.run (pc' := 7) [.lstore_n 1, .aload_n 0, .iconst 0] (ls' := [some (.ref a0), some (.long v1.1), none, none, none, none]) (st' := [.int (0 : Int32), .ref a0]) (by decide +kernel) rfl rfl ?_
  obtain ⟨v3, e4, e⟩ := bd_inv e
  refine Go.callH (M2 := m_Q_about) (as := [.ref a0, .int (0 : Int32)]) (rest := []) (v := some (.long v3.1)) (h1 := v3.2) (x_Q_about hf hI k0 e4) wh_Q_111 (by decide +kernel) rfl rfl ⟨⟨Nat.le_of_ble_eq_true rfl, Nat.le_of_ble_eq_true rfl⟩, ⟨Nat.le_of_ble_eq_true rfl, Nat.le_of_ble_eq_true rfl⟩⟩ (Nat.le_of_ble_eq_true rfl) ?_
  show Go l D ad aC (rmk m_Q_errors) _ m_Q_errors 10 [some (.ref a0), some (.long v1.1), none, none, none, none] [.long v3.1] v3.2 1 6
  refine Go.run (pc' := 14) [.l2i, .istore_n 3, .aload_n 0, .iconst 1] (ls' := [some (.ref a0), some (.long v1.1), none, some (.int v3.1.toInt32), none, none]) (st' := [.int (1 : Int32), .ref a0]) (by decide +kernel) rfl rfl ?_
  obtain ⟨v5, e6, e⟩ := bd_inv e
  refine Go.callH (M2 := m_Q_about) (as := [.ref a0, .int (1 : Int32)]) (rest := []) (v := some (.long v5.1)) (h1 := v5.2) (x_Q_about hf hI k0 e6) wh_Q_111 (by decide +kernel) rfl rfl ⟨⟨Nat.le_of_ble_eq_true rfl, Nat.le_of_ble_eq_true rfl⟩, ⟨Nat.le_of_ble_eq_true rfl, Nat.le_of_ble_eq_true rfl⟩⟩ (Nat.le_of_ble_eq_true rfl) ?_
  show Go l D ad aC (rmk m_Q_errors) _ m_Q_errors 17 [some (.ref a0), some (.long v1.1), none, some (.int v3.1.toInt32), none, none] [.long v5.1] v5.2 2 12
  refine Go.run (pc' := 22) [.l2i, .istore 4, .aload_n 0, .iconst (-1)] (ls' := [some (.ref a0), some (.long v1.1), none, some (.int v3.1.toInt32), some (.int v5.1.toInt32), none]) (st' := [.int (-1 : Int32), .ref a0]) (by decide +kernel) rfl rfl ?_
  obtain ⟨v7, e8, e⟩ := bd_inv e
  refine Go.callH (M2 := m_Q_about) (as := [.ref a0, .int (-1 : Int32)]) (rest := []) (v := some (.long v7.1)) (h1 := v7.2) (x_Q_about hf hI k0 e8) wh_Q_111 (by decide +kernel) rfl rfl ⟨⟨Nat.le_of_ble_eq_true rfl, Nat.le_of_ble_eq_true rfl⟩, ⟨Nat.le_of_ble_eq_true rfl, Nat.le_of_ble_eq_true rfl⟩⟩ (Nat.le_of_ble_eq_true rfl) ?_
  show Go l D ad aC (rmk m_Q_errors) _ m_Q_errors 25 [some (.ref a0), some (.long v1.1), none, some (.int v3.1.toInt32), some (.int v5.1.toInt32), none] [.long v7.1] v7.2 3 18
  refine Go.ldc2 lo_Q_17 (by decide +kernel) ?_
  refine Go.run (pc' := 29) [.lcmp] (ls' := [some (.ref a0), some (.long v1.1), none, some (.int v3.1.toInt32), some (.int v5.1.toInt32), none]) (st' := [.int (lg_cmp v7.1 (-9000000000000000002 : Int64))]) (by decide +kernel) rfl rfl ?_
  refine Go.if_ne (off := 350) (tgt := 379) (by decide +kernel) (by decide) (fun c9 => ?_) (fun c9 => ?_)
  · replace e := ite_f c9 e
    refine Go.wid (k' := 28) (n' := 168) (by decide) (by decide) ?_
    exact x_Q_errors_379 hf hI k0 e
  · replace e := ite_t c9 e
    refine Go.run (pc' := 35) [.aload_n 0, .bipush (14)] (ls' := [some (.ref a0), some (.long v1.1), none, some (.int v3.1.toInt32), some (.int v5.1.toInt32), none]) (st' := [.int (14 : Int32), .ref a0]) (by decide +kernel) rfl rfl ?_
    obtain ⟨v10, e11, e⟩ := bd_inv e
    refine Go.callH (M2 := m_Q_about) (as := [.ref a0, .int (14 : Int32)]) (rest := []) (v := some (.long v10.1)) (h1 := v10.2) (x_Q_about hf hI k0 e11) wh_Q_111 (by decide +kernel) rfl rfl ⟨⟨Nat.le_of_ble_eq_true rfl, Nat.le_of_ble_eq_true rfl⟩, ⟨Nat.le_of_ble_eq_true rfl, Nat.le_of_ble_eq_true rfl⟩⟩ (Nat.le_of_ble_eq_true rfl) ?_
    show Go l D ad aC (rmk m_Q_errors) _ m_Q_errors 38 [some (.ref a0), some (.long v1.1), none, some (.int v3.1.toInt32), some (.int v5.1.toInt32), none] [.long v10.1] v10.2 4 24
    refine Go.ldc2 lo_Q_17 (by decide +kernel) ?_
    refine Go.run (pc' := 42) [.lcmp] (ls' := [some (.ref a0), some (.long v1.1), none, some (.int v3.1.toInt32), some (.int v5.1.toInt32), none]) (st' := [.int (lg_cmp v10.1 (-9000000000000000002 : Int64))]) (by decide +kernel) rfl rfl ?_
    refine Go.if_ne (off := 337) (tgt := 379) (by decide +kernel) (by decide) (fun c12 => ?_) (fun c12 => ?_)
    · replace e := ite_f c12 e
      refine Go.wid (k' := 28) (n' := 168) (by decide) (by decide) ?_
      exact x_Q_errors_379 hf hI k0 e
    · replace e := ite_t c12 e
      refine Go.run (pc' := 49) [.aload_n 0, .iload_n 3, .bipush (6)] (ls' := [some (.ref a0), some (.long v1.1), none, some (.int v3.1.toInt32), some (.int v5.1.toInt32), none]) (st' := [.int (6 : Int32), .int v3.1.toInt32, .ref a0]) (by decide +kernel) rfl rfl ?_
      obtain ⟨v13, e14, e⟩ := bd_inv e
      refine Go.callH (M2 := m_Q_wallOf) (as := [.ref a0, .int v3.1.toInt32, .int (6 : Int32)]) (rest := []) (v := some (.long v13.1)) (h1 := v13.2) (x_Q_wallOf hf hI k0 e14) wh_Q_120 (by decide +kernel) rfl rfl ⟨⟨Nat.le_of_ble_eq_true rfl, Nat.le_of_ble_eq_true rfl⟩, ⟨Nat.le_of_ble_eq_true rfl, Nat.le_of_ble_eq_true rfl⟩⟩ (Nat.le_of_ble_eq_true rfl) ?_
      show Go l D ad aC (rmk m_Q_errors) _ m_Q_errors 52 [some (.ref a0), some (.long v1.1), none, some (.int v3.1.toInt32), some (.int v5.1.toInt32), none] [.long v13.1] v13.2 5 30
      refine Go.ldc2 lo_Q_36 (by decide +kernel) ?_
      refine Go.run (pc' := 56) [.lcmp] (ls' := [some (.ref a0), some (.long v1.1), none, some (.int v3.1.toInt32), some (.int v5.1.toInt32), none]) (st' := [.int (lg_cmp v13.1 (-9000000000000000001 : Int64))]) (by decide +kernel) rfl rfl ?_
      refine Go.if_ne (off := 323) (tgt := 379) (by decide +kernel) (by decide) (fun c15 => ?_) (fun c15 => ?_)
      · replace e := ite_f c15 e
        refine Go.wid (k' := 28) (n' := 168) (by decide) (by decide) ?_
        exact x_Q_errors_379 hf hI k0 e
      · replace e := ite_t c15 e
        refine Go.run (pc' := 63) [.aload_n 0, .iload_n 3, .iconst 0, .iconst 3] (ls' := [some (.ref a0), some (.long v1.1), none, some (.int v3.1.toInt32), some (.int v5.1.toInt32), none]) (st' := [.int (3 : Int32), .int (0 : Int32), .int v3.1.toInt32, .ref a0]) (by decide +kernel) rfl rfl ?_
        obtain ⟨v16, e17, e⟩ := bd_inv e
        refine Go.callH (M2 := m_Q_metreOf) (as := [.ref a0, .int v3.1.toInt32, .int (0 : Int32), .int (3 : Int32)]) (rest := []) (v := some (.long v16.1)) (h1 := v16.2) (x_Q_metreOf hf hI k0 e17) wh_Q_123 (by decide +kernel) rfl rfl ⟨⟨Nat.le_of_ble_eq_true rfl, Nat.le_of_ble_eq_true rfl⟩, ⟨Nat.le_of_ble_eq_true rfl, Nat.le_of_ble_eq_true rfl⟩⟩ (Nat.le_of_ble_eq_true rfl) ?_
        show Go l D ad aC (rmk m_Q_errors) _ m_Q_errors 66 [some (.ref a0), some (.long v1.1), none, some (.int v3.1.toInt32), some (.int v5.1.toInt32), none] [.long v16.1] v16.2 6 36
        refine Go.ldc2 lo_Q_36 (by decide +kernel) ?_
        refine Go.run (pc' := 70) [.lcmp] (ls' := [some (.ref a0), some (.long v1.1), none, some (.int v3.1.toInt32), some (.int v5.1.toInt32), none]) (st' := [.int (lg_cmp v16.1 (-9000000000000000001 : Int64))]) (by decide +kernel) rfl rfl ?_
        refine Go.if_ne (off := 309) (tgt := 379) (by decide +kernel) (by decide) (fun c18 => ?_) (fun c18 => ?_)
        · replace e := ite_f c18 e
          refine Go.wid (k' := 28) (n' := 168) (by decide) (by decide) ?_
          exact x_Q_errors_379 hf hI k0 e
        · replace e := ite_t c18 e
          refine Go.run (pc' := 78) [.aload_n 0, .iload 4, .bipush (12)] (ls' := [some (.ref a0), some (.long v1.1), none, some (.int v3.1.toInt32), some (.int v5.1.toInt32), none]) (st' := [.int (12 : Int32), .int v5.1.toInt32, .ref a0]) (by decide +kernel) rfl rfl ?_
          obtain ⟨v19, e20, e⟩ := bd_inv e
          refine Go.callH (M2 := m_Q_dealerOf) (as := [.ref a0, .int v5.1.toInt32, .int (12 : Int32)]) (rest := []) (v := some (.long v19.1)) (h1 := v19.2) (x_Q_dealerOf hf hI k0 e20) wh_Q_126 (by decide +kernel) rfl rfl ⟨⟨Nat.le_of_ble_eq_true rfl, Nat.le_of_ble_eq_true rfl⟩, ⟨Nat.le_of_ble_eq_true rfl, Nat.le_of_ble_eq_true rfl⟩⟩ (Nat.le_of_ble_eq_true rfl) ?_
          show Go l D ad aC (rmk m_Q_errors) _ m_Q_errors 81 [some (.ref a0), some (.long v1.1), none, some (.int v3.1.toInt32), some (.int v5.1.toInt32), none] [.long v19.1] v19.2 7 42
          refine Go.ldc2 lo_Q_36 (by decide +kernel) ?_
          refine Go.run (pc' := 85) [.lcmp] (ls' := [some (.ref a0), some (.long v1.1), none, some (.int v3.1.toInt32), some (.int v5.1.toInt32), none]) (st' := [.int (lg_cmp v19.1 (-9000000000000000001 : Int64))]) (by decide +kernel) rfl rfl ?_
          refine Go.if_ne (off := 294) (tgt := 379) (by decide +kernel) (by decide) (fun c21 => ?_) (fun c21 => ?_)
          · replace e := ite_f c21 e
            refine Go.wid (k' := 28) (n' := 168) (by decide) (by decide) ?_
            exact x_Q_errors_379 hf hI k0 e
          · replace e := ite_t c21 e
            refine Go.run (pc' := 91) [.aload_n 0, .iconst (-1), .iconst 0] (ls' := [some (.ref a0), some (.long v1.1), none, some (.int v3.1.toInt32), some (.int v5.1.toInt32), none]) (st' := [.int (0 : Int32), .int (-1 : Int32), .ref a0]) (by decide +kernel) rfl rfl ?_
            obtain ⟨v22, e23, e⟩ := bd_inv e
            refine Go.callH (M2 := m_Q_dealerOf) (as := [.ref a0, .int (-1 : Int32), .int (0 : Int32)]) (rest := []) (v := some (.long v22.1)) (h1 := v22.2) (x_Q_dealerOf hf hI k0 e23) wh_Q_126 (by decide +kernel) rfl rfl ⟨⟨Nat.le_of_ble_eq_true rfl, Nat.le_of_ble_eq_true rfl⟩, ⟨Nat.le_of_ble_eq_true rfl, Nat.le_of_ble_eq_true rfl⟩⟩ (Nat.le_of_ble_eq_true rfl) ?_
            show Go l D ad aC (rmk m_Q_errors) _ m_Q_errors 94 [some (.ref a0), some (.long v1.1), none, some (.int v3.1.toInt32), some (.int v5.1.toInt32), none] [.long v22.1] v22.2 8 48
            refine Go.ldc2 lo_Q_36 (by decide +kernel) ?_
            refine Go.run (pc' := 98) [.lcmp] (ls' := [some (.ref a0), some (.long v1.1), none, some (.int v3.1.toInt32), some (.int v5.1.toInt32), none]) (st' := [.int (lg_cmp v22.1 (-9000000000000000001 : Int64))]) (by decide +kernel) rfl rfl ?_
            refine Go.if_ne (off := 281) (tgt := 379) (by decide +kernel) (by decide) (fun c24 => ?_) (fun c24 => ?_)
            · replace e := ite_f c24 e
              refine Go.wid (k' := 28) (n' := 168) (by decide) (by decide) ?_
              exact x_Q_errors_379 hf hI k0 e
            · replace e := ite_t c24 e
              refine Go.run (pc' := 105) [.aload_n 0, .iload 4, .iconst 3] (ls' := [some (.ref a0), some (.long v1.1), none, some (.int v3.1.toInt32), some (.int v5.1.toInt32), none]) (st' := [.int (3 : Int32), .int v5.1.toInt32, .ref a0]) (by decide +kernel) rfl rfl ?_
              obtain ⟨v25, e26, e⟩ := bd_inv e
              refine Go.callH (M2 := m_Q_plugOf) (as := [.ref a0, .int v5.1.toInt32, .int (3 : Int32)]) (rest := []) (v := some (.long v25.1)) (h1 := v25.2) (x_Q_plugOf hf hI k0 e26) wh_Q_132 (by decide +kernel) rfl rfl ⟨⟨Nat.le_of_ble_eq_true rfl, Nat.le_of_ble_eq_true rfl⟩, ⟨Nat.le_of_ble_eq_true rfl, Nat.le_of_ble_eq_true rfl⟩⟩ (Nat.le_of_ble_eq_true rfl) ?_
              show Go l D ad aC (rmk m_Q_errors) _ m_Q_errors 108 [some (.ref a0), some (.long v1.1), none, some (.int v3.1.toInt32), some (.int v5.1.toInt32), none] [.long v25.1] v25.2 9 54
              refine Go.ldc2 lo_Q_36 (by decide +kernel) ?_
              refine Go.run (pc' := 112) [.lcmp] (ls' := [some (.ref a0), some (.long v1.1), none, some (.int v3.1.toInt32), some (.int v5.1.toInt32), none]) (st' := [.int (lg_cmp v25.1 (-9000000000000000001 : Int64))]) (by decide +kernel) rfl rfl ?_
              refine Go.if_ne (off := 267) (tgt := 379) (by decide +kernel) (by decide) (fun c27 => ?_) (fun c27 => ?_)
              · replace e := ite_f c27 e
                refine Go.wid (k' := 28) (n' := 168) (by decide) (by decide) ?_
                exact x_Q_errors_379 hf hI k0 e
              · replace e := ite_t c27 e
                refine Go.run (pc' := 118) [.aload_n 0, .bipush (6)] (ls' := [some (.ref a0), some (.long v1.1), none, some (.int v3.1.toInt32), some (.int v5.1.toInt32), none]) (st' := [.int (6 : Int32), .ref a0]) (by decide +kernel) rfl rfl ?_
                obtain ⟨v28, e29, e⟩ := bd_inv e
                refine Go.callH (M2 := m_Q_setting) (as := [.ref a0, .int (6 : Int32)]) (rest := []) (v := some (.long v28.1)) (h1 := v28.2) (x_Q_setting hf hI k0 e29) wh_Q_118 (by decide +kernel) rfl rfl ⟨⟨Nat.le_of_ble_eq_true rfl, Nat.le_of_ble_eq_true rfl⟩, ⟨Nat.le_of_ble_eq_true rfl, Nat.le_of_ble_eq_true rfl⟩⟩ (Nat.le_of_ble_eq_true rfl) ?_
                show Go l D ad aC (rmk m_Q_errors) _ m_Q_errors 121 [some (.ref a0), some (.long v1.1), none, some (.int v3.1.toInt32), some (.int v5.1.toInt32), none] [.long v28.1] v28.2 10 60
                refine Go.ldc2 lo_Q_17 (by decide +kernel) ?_
                refine Go.run (pc' := 125) [.lcmp] (ls' := [some (.ref a0), some (.long v1.1), none, some (.int v3.1.toInt32), some (.int v5.1.toInt32), none]) (st' := [.int (lg_cmp v28.1 (-9000000000000000002 : Int64))]) (by decide +kernel) rfl rfl ?_
                refine Go.if_ne (off := 254) (tgt := 379) (by decide +kernel) (by decide) (fun c30 => ?_) (fun c30 => ?_)
                · replace e := ite_f c30 e
                  refine Go.wid (k' := 28) (n' := 168) (by decide) (by decide) ?_
                  exact x_Q_errors_379 hf hI k0 e
                · replace e := ite_t c30 e
                  refine Go.run (pc' := 131) [.aload_n 0, .iload_n 3, .iconst 2] (ls' := [some (.ref a0), some (.long v1.1), none, some (.int v3.1.toInt32), some (.int v5.1.toInt32), none]) (st' := [.int (2 : Int32), .int v3.1.toInt32, .ref a0]) (by decide +kernel) rfl rfl ?_
                  obtain ⟨v31, e32, e⟩ := bd_inv e
                  refine Go.callH (M2 := m_Q_free) (as := [.ref a0, .int v3.1.toInt32, .int (2 : Int32)]) (rest := []) (v := some (.long v31.1)) (h1 := v31.2) (x_Q_free hf hI k0 e32) wh_Q_134 (by decide +kernel) rfl rfl ⟨⟨Nat.le_of_ble_eq_true rfl, Nat.le_of_ble_eq_true rfl⟩, ⟨Nat.le_of_ble_eq_true rfl, Nat.le_of_ble_eq_true rfl⟩⟩ (Nat.le_of_ble_eq_true rfl) ?_
                  show Go l D ad aC (rmk m_Q_errors) _ m_Q_errors 134 [some (.ref a0), some (.long v1.1), none, some (.int v3.1.toInt32), some (.int v5.1.toInt32), none] [.long v31.1] v31.2 11 66
                  refine Go.ldc2 lo_Q_36 (by decide +kernel) ?_
                  refine Go.run (pc' := 138) [.lcmp] (ls' := [some (.ref a0), some (.long v1.1), none, some (.int v3.1.toInt32), some (.int v5.1.toInt32), none]) (st' := [.int (lg_cmp v31.1 (-9000000000000000001 : Int64))]) (by decide +kernel) rfl rfl ?_
                  refine Go.if_ne (off := 241) (tgt := 379) (by decide +kernel) (by decide) (fun c33 => ?_) (fun c33 => ?_)
                  · replace e := ite_f c33 e
                    refine Go.wid (k' := 28) (n' := 168) (by decide) (by decide) ?_
                    exact x_Q_errors_379 hf hI k0 e
                  · replace e := ite_t c33 e
                    refine Go.run (pc' := 143) [.aload_n 0, .iconst 3] (ls' := [some (.ref a0), some (.long v1.1), none, some (.int v3.1.toInt32), some (.int v5.1.toInt32), none]) (st' := [.int (3 : Int32), .ref a0]) (by decide +kernel) rfl rfl ?_
                    obtain ⟨v34, e35, e⟩ := bd_inv e
                    refine Go.callH (M2 := m_Q_wall) (as := [.ref a0, .int (3 : Int32)]) (rest := []) (v := some (.long v34.1)) (h1 := v34.2) (x_Q_wall hf hI k0 e35) wh_Q_136 (by decide +kernel) rfl rfl ⟨⟨Nat.le_of_ble_eq_true rfl, Nat.le_of_ble_eq_true rfl⟩, ⟨Nat.le_of_ble_eq_true rfl, Nat.le_of_ble_eq_true rfl⟩⟩ (Nat.le_of_ble_eq_true rfl) ?_
                    show Go l D ad aC (rmk m_Q_errors) _ m_Q_errors 146 [some (.ref a0), some (.long v1.1), none, some (.int v3.1.toInt32), some (.int v5.1.toInt32), none] [.long v34.1] v34.2 12 72
                    refine Go.ldc2 lo_Q_17 (by decide +kernel) ?_
                    refine Go.run (pc' := 150) [.lcmp] (ls' := [some (.ref a0), some (.long v1.1), none, some (.int v3.1.toInt32), some (.int v5.1.toInt32), none]) (st' := [.int (lg_cmp v34.1 (-9000000000000000002 : Int64))]) (by decide +kernel) rfl rfl ?_
                    refine Go.if_ne (off := 229) (tgt := 379) (by decide +kernel) (by decide) (fun c36 => ?_) (fun c36 => ?_)
                    · replace e := ite_f c36 e
                      refine Go.wid (k' := 28) (n' := 168) (by decide) (by decide) ?_
                      exact x_Q_errors_379 hf hI k0 e
                    · replace e := ite_t c36 e
                      refine Go.run (pc' := 157) [.aload_n 0, .iload_n 3, .iconst 0, .iconst 5] (ls' := [some (.ref a0), some (.long v1.1), none, some (.int v3.1.toInt32), some (.int v5.1.toInt32), none]) (st' := [.int (5 : Int32), .int (0 : Int32), .int v3.1.toInt32, .ref a0]) (by decide +kernel) rfl rfl ?_
                      obtain ⟨v37, e38, e⟩ := bd_inv e
                      refine Go.callH (M2 := m_Q_outlet) (as := [.ref a0, .int v3.1.toInt32, .int (0 : Int32), .int (5 : Int32)]) (rest := []) (v := some (.long v37.1)) (h1 := v37.2) (x_Q_outlet hf hI k0 e38) wh_Q_138 (by decide +kernel) rfl rfl ⟨⟨Nat.le_of_ble_eq_true rfl, Nat.le_of_ble_eq_true rfl⟩, ⟨Nat.le_of_ble_eq_true rfl, Nat.le_of_ble_eq_true rfl⟩⟩ (Nat.le_of_ble_eq_true rfl) ?_
                      show Go l D ad aC (rmk m_Q_errors) _ m_Q_errors 160 [some (.ref a0), some (.long v1.1), none, some (.int v3.1.toInt32), some (.int v5.1.toInt32), none] [.long v37.1] v37.2 13 78
                      refine Go.ldc2 lo_Q_36 (by decide +kernel) ?_
                      refine Go.run (pc' := 164) [.lcmp] (ls' := [some (.ref a0), some (.long v1.1), none, some (.int v3.1.toInt32), some (.int v5.1.toInt32), none]) (st' := [.int (lg_cmp v37.1 (-9000000000000000001 : Int64))]) (by decide +kernel) rfl rfl ?_
                      refine Go.if_ne (off := 215) (tgt := 379) (by decide +kernel) (by decide) (fun c39 => ?_) (fun c39 => ?_)
                      · replace e := ite_f c39 e
                        refine Go.wid (k' := 28) (n' := 168) (by decide) (by decide) ?_
                        exact x_Q_errors_379 hf hI k0 e
                      · replace e := ite_t c39 e
                        refine Go.run (pc' := 171) [.aload_n 0, .iconst (-1), .iconst 1, .iconst 0] (ls' := [some (.ref a0), some (.long v1.1), none, some (.int v3.1.toInt32), some (.int v5.1.toInt32), none]) (st' := [.int (0 : Int32), .int (1 : Int32), .int (-1 : Int32), .ref a0]) (by decide +kernel) rfl rfl ?_
                        obtain ⟨v40, e41, e⟩ := bd_inv e
                        refine Go.callH (M2 := m_Q_dealer) (as := [.ref a0, .int (-1 : Int32), .int (1 : Int32), .int (0 : Int32)]) (rest := []) (v := some (.long v40.1)) (h1 := v40.2) (x_Q_dealer hf hI k0 e41) wh_Q_140 (by decide +kernel) rfl rfl ⟨⟨Nat.le_of_ble_eq_true rfl, Nat.le_of_ble_eq_true rfl⟩, ⟨Nat.le_of_ble_eq_true rfl, Nat.le_of_ble_eq_true rfl⟩⟩ (Nat.le_of_ble_eq_true rfl) ?_
                        show Go l D ad aC (rmk m_Q_errors) _ m_Q_errors 174 [some (.ref a0), some (.long v1.1), none, some (.int v3.1.toInt32), some (.int v5.1.toInt32), none] [.long v40.1] v40.2 14 84
                        refine Go.ldc2 lo_Q_17 (by decide +kernel) ?_
                        refine Go.run (pc' := 178) [.lcmp] (ls' := [some (.ref a0), some (.long v1.1), none, some (.int v3.1.toInt32), some (.int v5.1.toInt32), none]) (st' := [.int (lg_cmp v40.1 (-9000000000000000002 : Int64))]) (by decide +kernel) rfl rfl ?_
                        refine Go.if_ne (off := 201) (tgt := 379) (by decide +kernel) (by decide) (fun c42 => ?_) (fun c42 => ?_)
                        · replace e := ite_f c42 e
                          refine Go.wid (k' := 28) (n' := 168) (by decide) (by decide) ?_
                          exact x_Q_errors_379 hf hI k0 e
                        · replace e := ite_t c42 e
                          refine Go.run (pc' := 185) [.aload_n 0, .iconst 0, .iconst 0, .iconst 0] (ls' := [some (.ref a0), some (.long v1.1), none, some (.int v3.1.toInt32), some (.int v5.1.toInt32), none]) (st' := [.int (0 : Int32), .int (0 : Int32), .int (0 : Int32), .ref a0]) (by decide +kernel) rfl rfl ?_
                          obtain ⟨v43, e44, e⟩ := bd_inv e
                          refine Go.callH (M2 := m_Q_dealer) (as := [.ref a0, .int (0 : Int32), .int (0 : Int32), .int (0 : Int32)]) (rest := []) (v := some (.long v43.1)) (h1 := v43.2) (x_Q_dealer hf hI k0 e44) wh_Q_140 (by decide +kernel) rfl rfl ⟨⟨Nat.le_of_ble_eq_true rfl, Nat.le_of_ble_eq_true rfl⟩, ⟨Nat.le_of_ble_eq_true rfl, Nat.le_of_ble_eq_true rfl⟩⟩ (Nat.le_of_ble_eq_true rfl) ?_
                          show Go l D ad aC (rmk m_Q_errors) _ m_Q_errors 188 [some (.ref a0), some (.long v1.1), none, some (.int v3.1.toInt32), some (.int v5.1.toInt32), none] [.long v43.1] v43.2 15 90
                          refine Go.ldc2 lo_Q_17 (by decide +kernel) ?_
                          refine Go.run (pc' := 192) [.lcmp] (ls' := [some (.ref a0), some (.long v1.1), none, some (.int v3.1.toInt32), some (.int v5.1.toInt32), none]) (st' := [.int (lg_cmp v43.1 (-9000000000000000002 : Int64))]) (by decide +kernel) rfl rfl ?_
                          refine Go.if_ne (off := 187) (tgt := 379) (by decide +kernel) (by decide) (fun c45 => ?_) (fun c45 => ?_)
                          · replace e := ite_f c45 e
                            refine Go.wid (k' := 28) (n' := 168) (by decide) (by decide) ?_
                            exact x_Q_errors_379 hf hI k0 e
                          · replace e := ite_t c45 e
                            refine Go.run (pc' := 199) [.aload_n 0, .iconst 0, .iconst 1, .iconst 4] (ls' := [some (.ref a0), some (.long v1.1), none, some (.int v3.1.toInt32), some (.int v5.1.toInt32), none]) (st' := [.int (4 : Int32), .int (1 : Int32), .int (0 : Int32), .ref a0]) (by decide +kernel) rfl rfl ?_
                            obtain ⟨v46, e47, e⟩ := bd_inv e
                            refine Go.callH (M2 := m_Q_dealer) (as := [.ref a0, .int (0 : Int32), .int (1 : Int32), .int (4 : Int32)]) (rest := []) (v := some (.long v46.1)) (h1 := v46.2) (x_Q_dealer hf hI k0 e47) wh_Q_140 (by decide +kernel) rfl rfl ⟨⟨Nat.le_of_ble_eq_true rfl, Nat.le_of_ble_eq_true rfl⟩, ⟨Nat.le_of_ble_eq_true rfl, Nat.le_of_ble_eq_true rfl⟩⟩ (Nat.le_of_ble_eq_true rfl) ?_
                            show Go l D ad aC (rmk m_Q_errors) _ m_Q_errors 202 [some (.ref a0), some (.long v1.1), none, some (.int v3.1.toInt32), some (.int v5.1.toInt32), none] [.long v46.1] v46.2 16 96
                            refine Go.ldc2 lo_Q_17 (by decide +kernel) ?_
                            refine Go.run (pc' := 206) [.lcmp] (ls' := [some (.ref a0), some (.long v1.1), none, some (.int v3.1.toInt32), some (.int v5.1.toInt32), none]) (st' := [.int (lg_cmp v46.1 (-9000000000000000002 : Int64))]) (by decide +kernel) rfl rfl ?_
                            refine Go.if_ne (off := 173) (tgt := 379) (by decide +kernel) (by decide) (fun c48 => ?_) (fun c48 => ?_)
                            · replace e := ite_f c48 e
                              refine Go.wid (k' := 28) (n' := 168) (by decide) (by decide) ?_
                              exact x_Q_errors_379 hf hI k0 e
                            · replace e := ite_t c48 e
                              refine Go.run (pc' := 214) [.aload_n 0, .iload 4, .iconst 0, .iconst 0] (ls' := [some (.ref a0), some (.long v1.1), none, some (.int v3.1.toInt32), some (.int v5.1.toInt32), none]) (st' := [.int (0 : Int32), .int (0 : Int32), .int v5.1.toInt32, .ref a0]) (by decide +kernel) rfl rfl ?_
                              obtain ⟨v49, e50, e⟩ := bd_inv e
                              refine Go.callH (M2 := m_Q_place) (as := [.ref a0, .int v5.1.toInt32, .int (0 : Int32), .int (0 : Int32)]) (rest := []) (v := some (.long v49.1)) (h1 := v49.2) (x_Q_place hf hI k0 e50) wh_Q_142 (by decide +kernel) rfl rfl ⟨⟨Nat.le_of_ble_eq_true rfl, Nat.le_of_ble_eq_true rfl⟩, ⟨Nat.le_of_ble_eq_true rfl, Nat.le_of_ble_eq_true rfl⟩⟩ (Nat.le_of_ble_eq_true rfl) ?_
                              show Go l D ad aC (rmk m_Q_errors) _ m_Q_errors 217 [some (.ref a0), some (.long v1.1), none, some (.int v3.1.toInt32), some (.int v5.1.toInt32), none] [.long v49.1] v49.2 17 102
                              refine Go.ldc2 lo_Q_36 (by decide +kernel) ?_
                              refine Go.run (pc' := 221) [.lcmp] (ls' := [some (.ref a0), some (.long v1.1), none, some (.int v3.1.toInt32), some (.int v5.1.toInt32), none]) (st' := [.int (lg_cmp v49.1 (-9000000000000000001 : Int64))]) (by decide +kernel) rfl rfl ?_
                              refine Go.if_ne (off := 158) (tgt := 379) (by decide +kernel) (by decide) (fun c51 => ?_) (fun c51 => ?_)
                              · replace e := ite_f c51 e
                                refine Go.wid (k' := 28) (n' := 168) (by decide) (by decide) ?_
                                exact x_Q_errors_379 hf hI k0 e
                              · replace e := ite_t c51 e
                                refine Go.run (pc' := 228) [.aload_n 0, .iconst 0, .iload_n 3, .iconst 0] (ls' := [some (.ref a0), some (.long v1.1), none, some (.int v3.1.toInt32), some (.int v5.1.toInt32), none]) (st' := [.int (0 : Int32), .int v3.1.toInt32, .int (0 : Int32), .ref a0]) (by decide +kernel) rfl rfl ?_
                                obtain ⟨v52, e53, e⟩ := bd_inv e
                                refine Go.callH (M2 := m_Q_place) (as := [.ref a0, .int (0 : Int32), .int v3.1.toInt32, .int (0 : Int32)]) (rest := []) (v := some (.long v52.1)) (h1 := v52.2) (x_Q_place hf hI k0 e53) wh_Q_142 (by decide +kernel) rfl rfl ⟨⟨Nat.le_of_ble_eq_true rfl, Nat.le_of_ble_eq_true rfl⟩, ⟨Nat.le_of_ble_eq_true rfl, Nat.le_of_ble_eq_true rfl⟩⟩ (Nat.le_of_ble_eq_true rfl) ?_
                                show Go l D ad aC (rmk m_Q_errors) _ m_Q_errors 231 [some (.ref a0), some (.long v1.1), none, some (.int v3.1.toInt32), some (.int v5.1.toInt32), none] [.long v52.1] v52.2 18 108
                                refine Go.ldc2 lo_Q_36 (by decide +kernel) ?_
                                refine Go.run (pc' := 235) [.lcmp] (ls' := [some (.ref a0), some (.long v1.1), none, some (.int v3.1.toInt32), some (.int v5.1.toInt32), none]) (st' := [.int (lg_cmp v52.1 (-9000000000000000001 : Int64))]) (by decide +kernel) rfl rfl ?_
                                refine Go.if_ne (off := 144) (tgt := 379) (by decide +kernel) (by decide) (fun c54 => ?_) (fun c54 => ?_)
                                · replace e := ite_f c54 e
                                  refine Go.wid (k' := 28) (n' := 168) (by decide) (by decide) ?_
                                  exact x_Q_errors_379 hf hI k0 e
                                · replace e := ite_t c54 e
                                  refine Go.run (pc' := 241) [.aload_n 0, .iload 4] (ls' := [some (.ref a0), some (.long v1.1), none, some (.int v3.1.toInt32), some (.int v5.1.toInt32), none]) (st' := [.int v5.1.toInt32, .ref a0]) (by decide +kernel) rfl rfl ?_
                                  obtain ⟨v55, e56, e⟩ := bd_inv e
                                  refine Go.callH (M2 := m_Q_leave) (as := [.ref a0, .int v5.1.toInt32]) (rest := []) (v := some (.long v55.1)) (h1 := v55.2) (x_Q_leave hf hI k0 e56) wh_Q_144 (by decide +kernel) rfl rfl ⟨⟨Nat.le_of_ble_eq_true rfl, Nat.le_of_ble_eq_true rfl⟩, ⟨Nat.le_of_ble_eq_true rfl, Nat.le_of_ble_eq_true rfl⟩⟩ (Nat.le_of_ble_eq_true rfl) ?_
                                  show Go l D ad aC (rmk m_Q_errors) _ m_Q_errors 244 [some (.ref a0), some (.long v1.1), none, some (.int v3.1.toInt32), some (.int v5.1.toInt32), none] [.long v55.1] v55.2 19 114
                                  refine Go.ldc2 lo_Q_36 (by decide +kernel) ?_
                                  refine Go.run (pc' := 248) [.lcmp] (ls' := [some (.ref a0), some (.long v1.1), none, some (.int v3.1.toInt32), some (.int v5.1.toInt32), none]) (st' := [.int (lg_cmp v55.1 (-9000000000000000001 : Int64))]) (by decide +kernel) rfl rfl ?_
                                  refine Go.if_ne (off := 131) (tgt := 379) (by decide +kernel) (by decide) (fun c57 => ?_) (fun c57 => ?_)
                                  · replace e := ite_f c57 e
                                    refine Go.wid (k' := 28) (n' := 168) (by decide) (by decide) ?_
                                    exact x_Q_errors_379 hf hI k0 e
                                  · replace e := ite_t c57 e
                                    refine Go.run (pc' := 256) [.aload_n 0, .iload 4, .iload 4] (ls' := [some (.ref a0), some (.long v1.1), none, some (.int v3.1.toInt32), some (.int v5.1.toInt32), none]) (st' := [.int v5.1.toInt32, .int v5.1.toInt32, .ref a0]) (by decide +kernel) rfl rfl ?_
                                    obtain ⟨v58, e59, e⟩ := bd_inv e
                                    refine Go.callH (M2 := m_Q_swap) (as := [.ref a0, .int v5.1.toInt32, .int v5.1.toInt32]) (rest := []) (v := some (.long v58.1)) (h1 := v58.2) (x_Q_swap hf hI k0 e59) wh_Q_146 (by decide +kernel) rfl rfl ⟨⟨Nat.le_of_ble_eq_true rfl, Nat.le_of_ble_eq_true rfl⟩, ⟨Nat.le_of_ble_eq_true rfl, Nat.le_of_ble_eq_true rfl⟩⟩ (Nat.le_of_ble_eq_true rfl) ?_
                                    show Go l D ad aC (rmk m_Q_errors) _ m_Q_errors 259 [some (.ref a0), some (.long v1.1), none, some (.int v3.1.toInt32), some (.int v5.1.toInt32), none] [.long v58.1] v58.2 20 120
                                    refine Go.ldc2 lo_Q_36 (by decide +kernel) ?_
                                    refine Go.run (pc' := 263) [.lcmp] (ls' := [some (.ref a0), some (.long v1.1), none, some (.int v3.1.toInt32), some (.int v5.1.toInt32), none]) (st' := [.int (lg_cmp v58.1 (-9000000000000000001 : Int64))]) (by decide +kernel) rfl rfl ?_
                                    refine Go.if_ne (off := 116) (tgt := 379) (by decide +kernel) (by decide) (fun c60 => ?_) (fun c60 => ?_)
                                    · replace e := ite_f c60 e
                                      refine Go.wid (k' := 28) (n' := 168) (by decide) (by decide) ?_
                                      exact x_Q_errors_379 hf hI k0 e
                                    · replace e := ite_t c60 e
                                      refine Go.run (pc' := 268) [.aload_n 0, .iconst 0] (ls' := [some (.ref a0), some (.long v1.1), none, some (.int v3.1.toInt32), some (.int v5.1.toInt32), none]) (st' := [.int (0 : Int32), .ref a0]) (by decide +kernel) rfl rfl ?_
                                      obtain ⟨v61, e62, e⟩ := bd_inv e
                                      refine Go.callH (M2 := m_Q_days) (as := [.ref a0, .int (0 : Int32)]) (rest := []) (v := some (.long v61.1)) (h1 := v61.2) (x_Q_days hf hI k0 e62) wh_Q_148 (by decide +kernel) rfl rfl ⟨⟨Nat.le_of_ble_eq_true rfl, Nat.le_of_ble_eq_true rfl⟩, ⟨Nat.le_of_ble_eq_true rfl, Nat.le_of_ble_eq_true rfl⟩⟩ (Nat.le_of_ble_eq_true rfl) ?_
                                      show Go l D ad aC (rmk m_Q_errors) _ m_Q_errors 271 [some (.ref a0), some (.long v1.1), none, some (.int v3.1.toInt32), some (.int v5.1.toInt32), none] [.long v61.1] v61.2 21 126
                                      refine Go.ldc2 lo_Q_17 (by decide +kernel) ?_
                                      refine Go.run (pc' := 275) [.lcmp] (ls' := [some (.ref a0), some (.long v1.1), none, some (.int v3.1.toInt32), some (.int v5.1.toInt32), none]) (st' := [.int (lg_cmp v61.1 (-9000000000000000002 : Int64))]) (by decide +kernel) rfl rfl ?_
                                      refine Go.if_ne (off := 104) (tgt := 379) (by decide +kernel) (by decide) (fun c63 => ?_) (fun c63 => ?_)
                                      · replace e := ite_f c63 e
                                        refine Go.wid (k' := 28) (n' := 168) (by decide) (by decide) ?_
                                        exact x_Q_errors_379 hf hI k0 e
                                      · replace e := ite_t c63 e
                                        refine Go.run (pc' := 282) [.aload_n 0, .iconst 1, .bipush (10)] (ls' := [some (.ref a0), some (.long v1.1), none, some (.int v3.1.toInt32), some (.int v5.1.toInt32), none]) (st' := [.int (10 : Int32), .int (1 : Int32), .ref a0]) (by decide +kernel) rfl rfl ?_
                                        obtain ⟨v64, e65, e⟩ := bd_inv e
                                        refine Go.callH (M2 := m_Q_set) (as := [.ref a0, .int (1 : Int32), .int (10 : Int32)]) (rest := []) (v := some (.long v64.1)) (h1 := v64.2) (x_Q_set hf hI k0 e65) wh_Q_150 (by decide +kernel) rfl rfl ⟨⟨Nat.le_of_ble_eq_true rfl, Nat.le_of_ble_eq_true rfl⟩, ⟨Nat.le_of_ble_eq_true rfl, Nat.le_of_ble_eq_true rfl⟩⟩ (Nat.le_of_ble_eq_true rfl) ?_
                                        show Go l D ad aC (rmk m_Q_errors) _ m_Q_errors 285 [some (.ref a0), some (.long v1.1), none, some (.int v3.1.toInt32), some (.int v5.1.toInt32), none] [.long v64.1] v64.2 22 132
                                        refine Go.ldc2 lo_Q_17 (by decide +kernel) ?_
                                        refine Go.run (pc' := 289) [.lcmp] (ls' := [some (.ref a0), some (.long v1.1), none, some (.int v3.1.toInt32), some (.int v5.1.toInt32), none]) (st' := [.int (lg_cmp v64.1 (-9000000000000000002 : Int64))]) (by decide +kernel) rfl rfl ?_
                                        refine Go.if_ne (off := 90) (tgt := 379) (by decide +kernel) (by decide) (fun c66 => ?_) (fun c66 => ?_)
                                        · replace e := ite_f c66 e
                                          refine Go.wid (k' := 28) (n' := 168) (by decide) (by decide) ?_
                                          exact x_Q_errors_379 hf hI k0 e
                                        · replace e := ite_t c66 e
                                          refine Go.run (pc' := 296) [.aload_n 0, .iconst 0, .bipush (51)] (ls' := [some (.ref a0), some (.long v1.1), none, some (.int v3.1.toInt32), some (.int v5.1.toInt32), none]) (st' := [.int (51 : Int32), .int (0 : Int32), .ref a0]) (by decide +kernel) rfl rfl ?_
                                          obtain ⟨v67, e68, e⟩ := bd_inv e
                                          refine Go.callH (M2 := m_Q_set) (as := [.ref a0, .int (0 : Int32), .int (51 : Int32)]) (rest := []) (v := some (.long v67.1)) (h1 := v67.2) (x_Q_set hf hI k0 e68) wh_Q_150 (by decide +kernel) rfl rfl ⟨⟨Nat.le_of_ble_eq_true rfl, Nat.le_of_ble_eq_true rfl⟩, ⟨Nat.le_of_ble_eq_true rfl, Nat.le_of_ble_eq_true rfl⟩⟩ (Nat.le_of_ble_eq_true rfl) ?_
                                          show Go l D ad aC (rmk m_Q_errors) _ m_Q_errors 299 [some (.ref a0), some (.long v1.1), none, some (.int v3.1.toInt32), some (.int v5.1.toInt32), none] [.long v67.1] v67.2 23 138
                                          refine Go.ldc2 lo_Q_17 (by decide +kernel) ?_
                                          refine Go.run (pc' := 303) [.lcmp] (ls' := [some (.ref a0), some (.long v1.1), none, some (.int v3.1.toInt32), some (.int v5.1.toInt32), none]) (st' := [.int (lg_cmp v67.1 (-9000000000000000002 : Int64))]) (by decide +kernel) rfl rfl ?_
                                          refine Go.if_ne (off := 76) (tgt := 379) (by decide +kernel) (by decide) (fun c69 => ?_) (fun c69 => ?_)
                                          · replace e := ite_f c69 e
                                            refine Go.wid (k' := 28) (n' := 168) (by decide) (by decide) ?_
                                            exact x_Q_errors_379 hf hI k0 e
                                          · replace e := ite_t c69 e
                                            refine Go.run (pc' := 310) [.aload_n 0, .bipush (6), .iconst 0] (ls' := [some (.ref a0), some (.long v1.1), none, some (.int v3.1.toInt32), some (.int v5.1.toInt32), none]) (st' := [.int (0 : Int32), .int (6 : Int32), .ref a0]) (by decide +kernel) rfl rfl ?_
                                            obtain ⟨v70, e71, e⟩ := bd_inv e
                                            refine Go.callH (M2 := m_Q_set) (as := [.ref a0, .int (6 : Int32), .int (0 : Int32)]) (rest := []) (v := some (.long v70.1)) (h1 := v70.2) (x_Q_set hf hI k0 e71) wh_Q_150 (by decide +kernel) rfl rfl ⟨⟨Nat.le_of_ble_eq_true rfl, Nat.le_of_ble_eq_true rfl⟩, ⟨Nat.le_of_ble_eq_true rfl, Nat.le_of_ble_eq_true rfl⟩⟩ (Nat.le_of_ble_eq_true rfl) ?_
                                            show Go l D ad aC (rmk m_Q_errors) _ m_Q_errors 313 [some (.ref a0), some (.long v1.1), none, some (.int v3.1.toInt32), some (.int v5.1.toInt32), none] [.long v70.1] v70.2 24 144
                                            refine Go.ldc2 lo_Q_17 (by decide +kernel) ?_
                                            refine Go.run (pc' := 317) [.lcmp] (ls' := [some (.ref a0), some (.long v1.1), none, some (.int v3.1.toInt32), some (.int v5.1.toInt32), none]) (st' := [.int (lg_cmp v70.1 (-9000000000000000002 : Int64))]) (by decide +kernel) rfl rfl ?_
                                            refine Go.if_ne (off := 62) (tgt := 379) (by decide +kernel) (by decide) (fun c72 => ?_) (fun c72 => ?_)
                                            · replace e := ite_f c72 e
                                              refine Go.wid (k' := 28) (n' := 168) (by decide) (by decide) ?_
                                              exact x_Q_errors_379 hf hI k0 e
                                            · replace e := ite_t c72 e
                                              refine Go.run (pc' := 325) [.aload_n 0, .iload 4, .iconst 0, .iconst 0] (ls' := [some (.ref a0), some (.long v1.1), none, some (.int v3.1.toInt32), some (.int v5.1.toInt32), none]) (st' := [.int (0 : Int32), .int (0 : Int32), .int v5.1.toInt32, .ref a0]) (by decide +kernel) rfl rfl ?_
                                              obtain ⟨v73, e74, e⟩ := bd_inv e
                                              refine Go.callH (M2 := m_Q_rentIf) (as := [.ref a0, .int v5.1.toInt32, .int (0 : Int32), .int (0 : Int32)]) (rest := []) (v := some (.long v73.1)) (h1 := v73.2) (x_Q_rentIf hf hI k0 e74) wh_Q_152 (by decide +kernel) rfl rfl ⟨⟨Nat.le_of_ble_eq_true rfl, Nat.le_of_ble_eq_true rfl⟩, ⟨Nat.le_of_ble_eq_true rfl, Nat.le_of_ble_eq_true rfl⟩⟩ (Nat.le_of_ble_eq_true rfl) ?_
                                              show Go l D ad aC (rmk m_Q_errors) _ m_Q_errors 328 [some (.ref a0), some (.long v1.1), none, some (.int v3.1.toInt32), some (.int v5.1.toInt32), none] [.long v73.1] v73.2 25 150
                                              refine Go.ldc2 lo_Q_36 (by decide +kernel) ?_
                                              refine Go.run (pc' := 332) [.lcmp] (ls' := [some (.ref a0), some (.long v1.1), none, some (.int v3.1.toInt32), some (.int v5.1.toInt32), none]) (st' := [.int (lg_cmp v73.1 (-9000000000000000001 : Int64))]) (by decide +kernel) rfl rfl ?_
                                              refine Go.if_ne (off := 47) (tgt := 379) (by decide +kernel) (by decide) (fun c75 => ?_) (fun c75 => ?_)
                                              · replace e := ite_f c75 e
                                                refine Go.wid (k' := 28) (n' := 168) (by decide) (by decide) ?_
                                                exact x_Q_errors_379 hf hI k0 e
                                              · replace e := ite_t c75 e
                                                refine Go.run (pc' := 339) [.aload_n 0, .iload 4, .iconst 2] (ls' := [some (.ref a0), some (.long v1.1), none, some (.int v3.1.toInt32), some (.int v5.1.toInt32), none]) (st' := [.int (2 : Int32), .int v5.1.toInt32, .ref a0]) (by decide +kernel) rfl rfl ?_
                                                obtain ⟨v76, e77, e⟩ := bd_inv e
                                                refine Go.callH (M2 := m_Q_cheapest) (as := [.ref a0, .int v5.1.toInt32, .int (2 : Int32)]) (rest := []) (v := some (.long v76.1)) (h1 := v76.2) (x_Q_cheapest hf hI k0 e77) wh_Q_154 (by decide +kernel) rfl rfl ⟨⟨Nat.le_of_ble_eq_true rfl, Nat.le_of_ble_eq_true rfl⟩, ⟨Nat.le_of_ble_eq_true rfl, Nat.le_of_ble_eq_true rfl⟩⟩ (Nat.le_of_ble_eq_true rfl) ?_
                                                show Go l D ad aC (rmk m_Q_errors) _ m_Q_errors 342 [some (.ref a0), some (.long v1.1), none, some (.int v3.1.toInt32), some (.int v5.1.toInt32), none] [.long v76.1] v76.2 26 156
                                                refine Go.ldc2 lo_Q_36 (by decide +kernel) ?_
                                                refine Go.run (pc' := 346) [.lcmp] (ls' := [some (.ref a0), some (.long v1.1), none, some (.int v3.1.toInt32), some (.int v5.1.toInt32), none]) (st' := [.int (lg_cmp v76.1 (-9000000000000000001 : Int64))]) (by decide +kernel) rfl rfl ?_
                                                refine Go.if_ne (off := 33) (tgt := 379) (by decide +kernel) (by decide) (fun c78 => ?_) (fun c78 => ?_)
                                                · replace e := ite_f c78 e
                                                  refine Go.wid (k' := 28) (n' := 168) (by decide) (by decide) ?_
                                                  exact x_Q_errors_379 hf hI k0 e
                                                · replace e := ite_t c78 e
                                                  refine Go.run (pc' := 351) [.aload_n 0, .iconst 2] (ls' := [some (.ref a0), some (.long v1.1), none, some (.int v3.1.toInt32), some (.int v5.1.toInt32), none]) (st' := [.int (2 : Int32), .ref a0]) (by decide +kernel) rfl rfl ?_
                                                  obtain ⟨v79, e80, e⟩ := bd_inv e
                                                  refine Go.callH (M2 := m_Q_bestSwap) (as := [.ref a0, .int (2 : Int32)]) (rest := []) (v := some (.long v79.1)) (h1 := v79.2) (x_Q_bestSwap hf hI k0 e80) wh_Q_156 (by decide +kernel) rfl rfl ⟨⟨Nat.le_of_ble_eq_true rfl, Nat.le_of_ble_eq_true rfl⟩, ⟨Nat.le_of_ble_eq_true rfl, Nat.le_of_ble_eq_true rfl⟩⟩ (Nat.le_of_ble_eq_true rfl) ?_
                                                  show Go l D ad aC (rmk m_Q_errors) _ m_Q_errors 354 [some (.ref a0), some (.long v1.1), none, some (.int v3.1.toInt32), some (.int v5.1.toInt32), none] [.long v79.1] v79.2 27 162
                                                  refine Go.ldc2 lo_Q_17 (by decide +kernel) ?_
                                                  refine Go.run (pc' := 358) [.lcmp] (ls' := [some (.ref a0), some (.long v1.1), none, some (.int v3.1.toInt32), some (.int v5.1.toInt32), none]) (st' := [.int (lg_cmp v79.1 (-9000000000000000002 : Int64))]) (by decide +kernel) rfl rfl ?_
                                                  refine Go.if_ne (off := 21) (tgt := 379) (by decide +kernel) (by decide) (fun c81 => ?_) (fun c81 => ?_)
                                                  · replace e := ite_f c81 e
                                                    refine Go.wid (k' := 28) (n' := 168) (by decide) (by decide) ?_
                                                    exact x_Q_errors_379 hf hI k0 e
                                                  · replace e := ite_t c81 e
                                                    refine Go.run (pc' := 365) [.aload_n 0, .iload 4, .iconst 0] (ls' := [some (.ref a0), some (.long v1.1), none, some (.int v3.1.toInt32), some (.int v5.1.toInt32), none]) (st' := [.int (0 : Int32), .int v5.1.toInt32, .ref a0]) (by decide +kernel) rfl rfl ?_
                                                    obtain ⟨v82, e83, e⟩ := bd_inv e
                                                    refine Go.callH (M2 := m_Q_why) (as := [.ref a0, .int v5.1.toInt32, .int (0 : Int32)]) (rest := []) (v := some (.long v82.1)) (h1 := v82.2) (x_Q_why hf hI k0 e83) wh_Q_158 (by decide +kernel) rfl rfl ⟨⟨Nat.le_of_ble_eq_true rfl, Nat.le_of_ble_eq_true rfl⟩, ⟨Nat.le_of_ble_eq_true rfl, Nat.le_of_ble_eq_true rfl⟩⟩ (Nat.le_of_ble_eq_true rfl) ?_
                                                    show Go l D ad aC (rmk m_Q_errors) _ m_Q_errors 368 [some (.ref a0), some (.long v1.1), none, some (.int v3.1.toInt32), some (.int v5.1.toInt32), none] [.long v82.1] v82.2 28 168
                                                    refine Go.ldc2 lo_Q_36 (by decide +kernel) ?_
                                                    refine Go.run (pc' := 372) [.lcmp] (ls' := [some (.ref a0), some (.long v1.1), none, some (.int v3.1.toInt32), some (.int v5.1.toInt32), none]) (st' := [.int (lg_cmp v82.1 (-9000000000000000001 : Int64))]) (by decide +kernel) rfl rfl ?_
                                                    refine Go.if_ne (off := 7) (tgt := 379) (by decide +kernel) (by decide) (fun c84 => ?_) (fun c84 => ?_)
                                                    · replace e := ite_f c84 e
                                                      exact x_Q_errors_379 hf hI k0 e
                                                    · replace e := ite_t c84 e
                                                      refine Go.run (pc' := 376) [.iconst 1] (ls' := [some (.ref a0), some (.long v1.1), none, some (.int v3.1.toInt32), some (.int v5.1.toInt32), none]) (st' := [.int (1 : Int32)]) (by decide +kernel) rfl rfl ?_
                                                      refine Go.goto (off := 4) (tgt := 380) (by decide +kernel) (by decide) ?_
                                                      exact x_Q_errors_380 hf hI k0 e
