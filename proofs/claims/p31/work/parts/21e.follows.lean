/-! printed by wip/p31/law31.py -/
def f_Q_follows_518  (a0 : Nat) (y2 : Int64) (x4 : Int32) (h : HP) : Option (Int32 × HP) :=
  if x4 = 0 then
    some ((0 : Int32), h)
  else
    (f_Q_now h a0).bind fun v2 =>
    if (lg_cmp v2.1 y2) = 0 then
      (f_Q_restore v2.2 a0 (1 : Int32)).bind fun v5 =>
      if (lg_cmp v5.1 (0 : Int64)) < 0 then
        some ((0 : Int32), v5.2)
      else
        (f_Q_now v5.2 a0).bind fun v8 =>
        if (lg_cmp v8.1 y2) = 0 then
          (f_Q_undo v8.2 a0).bind fun v11 =>
          if (lg_cmp v11.1 (-9000000000000000003 : Int64)) = 0 then
            some ((1 : Int32), v11.2)
          else
            some ((0 : Int32), v11.2)
        else
          some ((0 : Int32), v8.2)
    else
      some ((0 : Int32), v2.2)
set_option maxHeartbeats 4000000 in
theorem x_Q_follows_518 {l : Launch} {D : va_G} {ad : Nat → Nat} {aC : Nat → ClassId} (hf : l.flags = flags0) (hI : Inj ad) {a0 : Nat} {y2 : Int64} {x4 : Int32} {h : HP} {r : Int32 × HP} (k0 : knd a0 = 7) (e : f_Q_follows_518 a0 y2 x4 h = some r) : Go l D ad aC (rmk m_Q_follows) (QM D ad aC m_Q_follows (.inl (some (.int r.1))) r.2) m_Q_follows 518 [some (.ref a0), none, some (.long y2), none, some (.int x4), none, none, none, none, none, none, none, none, none, none, none, none, none, none] [] h 30 180 := by
  unfold f_Q_follows_518 at e
  refine Go.run (pc' := 520) [.iload 4] (ls' := [some (.ref a0), none, some (.long y2), none, some (.int x4), none, none, none, none, none, none, none, none, none, none, none, none, none, none]) (st' := [.int x4]) (by decide +kernel) rfl rfl ?_
  refine Go.if_eq (off := 46) (tgt := 566) (by decide +kernel) (by decide) (fun c1 => ?_) (fun c1 => ?_)
  · replace e := ite_t c1 e
    refine Go.run (pc' := 567) [.iconst 0] (ls' := [some (.ref a0), none, some (.long y2), none, some (.int x4), none, none, none, none, none, none, none, none, none, none, none, none, none, none]) (st' := [.int (0 : Int32)]) (by decide +kernel) rfl rfl ?_
    obtain rfl := Option.some.inj e
    exact Go.zret rfl nar_z0 (by decide) (by decide) (by decide +kernel)
  · replace e := ite_f c1 e
    refine Go.run (pc' := 524) [.aload_n 0] (ls' := [some (.ref a0), none, some (.long y2), none, some (.int x4), none, none, none, none, none, none, none, none, none, none, none, none, none, none]) (st' := [.ref a0]) (by decide +kernel) rfl rfl ?_
    obtain ⟨v2, e3, e⟩ := bd_inv e
    refine Go.callS (M2 := m_Q_now) (as := [.ref a0]) (rest := []) (v := some (.long v2.1)) (h1 := v2.2) (x_Q_now hf hI k0 e3) ws_Q_128 (by decide +kernel) rfl rfl ⟨⟨Nat.le_of_ble_eq_true rfl, Nat.le_of_ble_eq_true rfl⟩, ⟨Nat.le_of_ble_eq_true rfl, Nat.le_of_ble_eq_true rfl⟩⟩ (Nat.le_of_ble_eq_true rfl) ?_
    show Go l D ad aC (rmk m_Q_follows) _ m_Q_follows 527 [some (.ref a0), none, some (.long y2), none, some (.int x4), none, none, none, none, none, none, none, none, none, none, none, none, none, none] [.long v2.1] v2.2 30 180
    refine Go.run (pc' := 529) [.lload_n 2, .lcmp] (ls' := [some (.ref a0), none, some (.long y2), none, some (.int x4), none, none, none, none, none, none, none, none, none, none, none, none, none, none]) (st' := [.int (lg_cmp v2.1 y2)]) (by decide +kernel) rfl rfl ?_
    refine Go.if_ne (off := 37) (tgt := 566) (by decide +kernel) (by decide) (fun c4 => ?_) (fun c4 => ?_)
    · replace e := ite_f c4 e
      refine Go.run (pc' := 567) [.iconst 0] (ls' := [some (.ref a0), none, some (.long y2), none, some (.int x4), none, none, none, none, none, none, none, none, none, none, none, none, none, none]) (st' := [.int (0 : Int32)]) (by decide +kernel) rfl rfl ?_
      obtain rfl := Option.some.inj e
      exact Go.zret rfl nar_z0 (by decide) (by decide) (by decide +kernel)
    · replace e := ite_t c4 e
      refine Go.run (pc' := 534) [.aload_n 0, .iconst 1] (ls' := [some (.ref a0), none, some (.long y2), none, some (.int x4), none, none, none, none, none, none, none, none, none, none, none, none, none, none]) (st' := [.int (1 : Int32), .ref a0]) (by decide +kernel) rfl rfl ?_
      obtain ⟨v5, e6, e⟩ := bd_inv e
      refine Go.callH (M2 := m_Q_restore) (as := [.ref a0, .int (1 : Int32)]) (rest := []) (v := some (.long v5.1)) (h1 := v5.2) (x_Q_restore hf hI k0 e6) wh_Q_173 (by decide +kernel) rfl rfl ⟨⟨Nat.le_of_ble_eq_true rfl, Nat.le_of_ble_eq_true rfl⟩, ⟨Nat.le_of_ble_eq_true rfl, Nat.le_of_ble_eq_true rfl⟩⟩ (Nat.le_of_ble_eq_true rfl) ?_
      show Go l D ad aC (rmk m_Q_follows) _ m_Q_follows 537 [some (.ref a0), none, some (.long y2), none, some (.int x4), none, none, none, none, none, none, none, none, none, none, none, none, none, none] [.long v5.1] v5.2 31 186
      refine Go.run (pc' := 539) [.lconst 0, .lcmp] (ls' := [some (.ref a0), none, some (.long y2), none, some (.int x4), none, none, none, none, none, none, none, none, none, none, none, none, none, none]) (st' := [.int (lg_cmp v5.1 (0 : Int64))]) (by decide +kernel) rfl rfl ?_
      refine Go.if_lt (off := 27) (tgt := 566) (by decide +kernel) (by decide) (fun c7 => ?_) (fun c7 => ?_)
      · replace e := ite_t c7 e
        refine Go.run (pc' := 567) [.iconst 0] (ls' := [some (.ref a0), none, some (.long y2), none, some (.int x4), none, none, none, none, none, none, none, none, none, none, none, none, none, none]) (st' := [.int (0 : Int32)]) (by decide +kernel) rfl rfl ?_
        obtain rfl := Option.some.inj e
        exact Go.zret rfl nar_z0 (by decide) (by decide) (by decide +kernel)
      · replace e := ite_f c7 e
        refine Go.run (pc' := 543) [.aload_n 0] (ls' := [some (.ref a0), none, some (.long y2), none, some (.int x4), none, none, none, none, none, none, none, none, none, none, none, none, none, none]) (st' := [.ref a0]) (by decide +kernel) rfl rfl ?_
        obtain ⟨v8, e9, e⟩ := bd_inv e
        refine Go.callS (M2 := m_Q_now) (as := [.ref a0]) (rest := []) (v := some (.long v8.1)) (h1 := v8.2) (x_Q_now hf hI k0 e9) ws_Q_128 (by decide +kernel) rfl rfl ⟨⟨Nat.le_of_ble_eq_true rfl, Nat.le_of_ble_eq_true rfl⟩, ⟨Nat.le_of_ble_eq_true rfl, Nat.le_of_ble_eq_true rfl⟩⟩ (Nat.le_of_ble_eq_true rfl) ?_
        show Go l D ad aC (rmk m_Q_follows) _ m_Q_follows 546 [some (.ref a0), none, some (.long y2), none, some (.int x4), none, none, none, none, none, none, none, none, none, none, none, none, none, none] [.long v8.1] v8.2 31 186
        refine Go.run (pc' := 548) [.lload_n 2, .lcmp] (ls' := [some (.ref a0), none, some (.long y2), none, some (.int x4), none, none, none, none, none, none, none, none, none, none, none, none, none, none]) (st' := [.int (lg_cmp v8.1 y2)]) (by decide +kernel) rfl rfl ?_
        refine Go.if_ne (off := 18) (tgt := 566) (by decide +kernel) (by decide) (fun c10 => ?_) (fun c10 => ?_)
        · replace e := ite_f c10 e
          refine Go.run (pc' := 567) [.iconst 0] (ls' := [some (.ref a0), none, some (.long y2), none, some (.int x4), none, none, none, none, none, none, none, none, none, none, none, none, none, none]) (st' := [.int (0 : Int32)]) (by decide +kernel) rfl rfl ?_
          obtain rfl := Option.some.inj e
          exact Go.zret rfl nar_z0 (by decide) (by decide) (by decide +kernel)
        · replace e := ite_t c10 e
          refine Go.run (pc' := 552) [.aload_n 0] (ls' := [some (.ref a0), none, some (.long y2), none, some (.int x4), none, none, none, none, none, none, none, none, none, none, none, none, none, none]) (st' := [.ref a0]) (by decide +kernel) rfl rfl ?_
          obtain ⟨v11, e12, e⟩ := bd_inv e
          refine Go.callH (M2 := m_Q_undo) (as := [.ref a0]) (rest := []) (v := some (.long v11.1)) (h1 := v11.2) (x_Q_undo hf hI k0 e12) wh_Q_185 (by decide +kernel) rfl rfl ⟨⟨Nat.le_of_ble_eq_true rfl, Nat.le_of_ble_eq_true rfl⟩, ⟨Nat.le_of_ble_eq_true rfl, Nat.le_of_ble_eq_true rfl⟩⟩ (Nat.le_of_ble_eq_true rfl) ?_
          show Go l D ad aC (rmk m_Q_follows) _ m_Q_follows 555 [some (.ref a0), none, some (.long y2), none, some (.int x4), none, none, none, none, none, none, none, none, none, none, none, none, none, none] [.long v11.1] v11.2 32 192
          refine Go.ldc2 lo_Q_21 (by decide +kernel) ?_
          refine Go.run (pc' := 559) [.lcmp] (ls' := [some (.ref a0), none, some (.long y2), none, some (.int x4), none, none, none, none, none, none, none, none, none, none, none, none, none, none]) (st' := [.int (lg_cmp v11.1 (-9000000000000000003 : Int64))]) (by decide +kernel) rfl rfl ?_
          refine Go.if_ne (off := 7) (tgt := 566) (by decide +kernel) (by decide) (fun c13 => ?_) (fun c13 => ?_)
          · replace e := ite_f c13 e
            refine Go.run (pc' := 567) [.iconst 0] (ls' := [some (.ref a0), none, some (.long y2), none, some (.int x4), none, none, none, none, none, none, none, none, none, none, none, none, none, none]) (st' := [.int (0 : Int32)]) (by decide +kernel) rfl rfl ?_
            obtain rfl := Option.some.inj e
            exact Go.zret rfl nar_z0 (by decide) (by decide) (by decide +kernel)
          · replace e := ite_t c13 e
            refine Go.run (pc' := 563) [.iconst 1] (ls' := [some (.ref a0), none, some (.long y2), none, some (.int x4), none, none, none, none, none, none, none, none, none, none, none, none, none, none]) (st' := [.int (1 : Int32)]) (by decide +kernel) rfl rfl ?_
            refine Go.goto (off := 4) (tgt := 567) (by decide +kernel) (by decide) ?_
            obtain rfl := Option.some.inj e
            exact Go.zret rfl nar_z1 (by decide) (by decide) (by decide +kernel)
def f_Q_follows_516  (a0 : Nat) (y2 : Int64) (s0 : Int32) (h : HP) : Option (Int32 × HP) :=
  f_Q_follows_518 a0 y2 s0 h
set_option maxHeartbeats 4000000 in
theorem x_Q_follows_516 {l : Launch} {D : va_G} {ad : Nat → Nat} {aC : Nat → ClassId} (hf : l.flags = flags0) (hI : Inj ad) {a0 : Nat} {y2 : Int64} {s0 : Int32} {h : HP} {r : Int32 × HP} (k0 : knd a0 = 7) (e : f_Q_follows_516 a0 y2 s0 h = some r) : Go l D ad aC (rmk m_Q_follows) (QM D ad aC m_Q_follows (.inl (some (.int r.1))) r.2) m_Q_follows 516 [some (.ref a0), none, some (.long y2), none, none, none, none, none, none, none, none, none, none, none, none, none, none, none, none] [.int s0] h 30 180 := by
  unfold f_Q_follows_516 at e
  refine Go.run (pc' := 518) [.istore 4] (ls' := [some (.ref a0), none, some (.long y2), none, some (.int s0), none, none, none, none, none, none, none, none, none, none, none, none, none, none]) (st' := []) (by decide +kernel) rfl rfl ?_
  exact x_Q_follows_518 hf hI k0 e
def f_Q_follows_515  (a0 : Nat) (y2 : Int64) (h : HP) : Option (Int32 × HP) :=
  f_Q_follows_516 a0 y2 (0 : Int32) h
set_option maxHeartbeats 4000000 in
theorem x_Q_follows_515 {l : Launch} {D : va_G} {ad : Nat → Nat} {aC : Nat → ClassId} (hf : l.flags = flags0) (hI : Inj ad) {a0 : Nat} {y2 : Int64} {h : HP} {r : Int32 × HP} (k0 : knd a0 = 7) (e : f_Q_follows_515 a0 y2 h = some r) : Go l D ad aC (rmk m_Q_follows) (QM D ad aC m_Q_follows (.inl (some (.int r.1))) r.2) m_Q_follows 515 [some (.ref a0), none, some (.long y2), none, none, none, none, none, none, none, none, none, none, none, none, none, none, none, none] [] h 30 180 := by
  unfold f_Q_follows_515 at e
  refine Go.run (pc' := 516) [.iconst 0] (ls' := [some (.ref a0), none, some (.long y2), none, none, none, none, none, none, none, none, none, none, none, none, none, none, none, none]) (st' := [.int (0 : Int32)]) (by decide +kernel) rfl rfl ?_
  exact x_Q_follows_516 hf hI k0 e
def f_Q_follows_511  (a0 : Nat) (y2 : Int64) (h : HP) : Option (Int32 × HP) :=
  f_Q_follows_516 a0 y2 (1 : Int32) h
set_option maxHeartbeats 4000000 in
theorem x_Q_follows_511 {l : Launch} {D : va_G} {ad : Nat → Nat} {aC : Nat → ClassId} (hf : l.flags = flags0) (hI : Inj ad) {a0 : Nat} {y2 : Int64} {h : HP} {r : Int32 × HP} (k0 : knd a0 = 7) (e : f_Q_follows_511 a0 y2 h = some r) : Go l D ad aC (rmk m_Q_follows) (QM D ad aC m_Q_follows (.inl (some (.int r.1))) r.2) m_Q_follows 511 [some (.ref a0), none, some (.long y2), none, none, none, none, none, none, none, none, none, none, none, none, none, none, none, none] [] h 30 180 := by
  unfold f_Q_follows_511 at e
  refine Go.run (pc' := 512) [.iconst 1] (ls' := [some (.ref a0), none, some (.long y2), none, none, none, none, none, none, none, none, none, none, none, none, none, none, none, none]) (st' := [.int (1 : Int32)]) (by decide +kernel) rfl rfl ?_
  refine Go.goto (off := 4) (tgt := 516) (by decide +kernel) (by decide) ?_
  exact x_Q_follows_516 hf hI k0 e
def f_Q_follows_478  (a0 : Nat) (y2 : Int64) (x4 : Int32) (x10 : Int32) (x12 : Int32) (y13 : Int64) (y15 : Int64) (h : HP) : Option (Int32 × HP) :=
  if x4 = 0 then
    f_Q_follows_515 a0 y2 h
  else
    if x12 = 0 then
      f_Q_follows_511 a0 y2 h
    else
      if (lg_cmp y13 (-1 : Int64)) = 0 then
        f_Q_follows_515 a0 y2 h
      else
        (f_Q_dealerOf h a0 x10 (7 : Int32)).bind fun v4 =>
        if 0 < (lg_cmp y15 v4.1) then
          f_Q_follows_515 a0 y2 v4.2
        else
          f_Q_follows_511 a0 y2 v4.2
set_option maxHeartbeats 4000000 in
theorem x_Q_follows_478 {l : Launch} {D : va_G} {ad : Nat → Nat} {aC : Nat → ClassId} (hf : l.flags = flags0) (hI : Inj ad) {a0 : Nat} {y2 : Int64} {x4 : Int32} {x10 : Int32} {x12 : Int32} {y13 : Int64} {y15 : Int64} {h : HP} {r : Int32 × HP} (k0 : knd a0 = 7) (e : f_Q_follows_478 a0 y2 x4 x10 x12 y13 y15 h = some r) : Go l D ad aC (rmk m_Q_follows) (QM D ad aC m_Q_follows (.inl (some (.int r.1))) r.2) m_Q_follows 478 [some (.ref a0), none, some (.long y2), none, some (.int x4), none, none, none, none, none, some (.int x10), none, some (.int x12), some (.long y13), none, some (.long y15), none, none, none] [] h 29 174 := by
  unfold f_Q_follows_478 at e
  refine Go.run (pc' := 480) [.iload 4] (ls' := [some (.ref a0), none, some (.long y2), none, some (.int x4), none, none, none, none, none, some (.int x10), none, some (.int x12), some (.long y13), none, some (.long y15), none, none, none]) (st' := [.int x4]) (by decide +kernel) rfl rfl ?_
  refine Go.if_eq (off := 35) (tgt := 515) (by decide +kernel) (by decide) (fun c1 => ?_) (fun c1 => ?_)
  · replace e := ite_t c1 e
    refine Go.wid (k' := 30) (n' := 180) (by decide) (by decide) ?_
    refine Go.wk' (wks (wks (wks (wks (wkn (wks (wks (wks (wks (wks (wkn (wks (wkn (wkn (wks (wkn (wks (wks (wks wk0))))))))))))))))))) ?_
    exact x_Q_follows_515 hf hI k0 e
  · replace e := ite_f c1 e
    refine Go.run (pc' := 485) [.iload 12] (ls' := [some (.ref a0), none, some (.long y2), none, some (.int x4), none, none, none, none, none, some (.int x10), none, some (.int x12), some (.long y13), none, some (.long y15), none, none, none]) (st' := [.int x12]) (by decide +kernel) rfl rfl ?_
    refine Go.if_eq (off := 26) (tgt := 511) (by decide +kernel) (by decide) (fun c2 => ?_) (fun c2 => ?_)
    · replace e := ite_t c2 e
      refine Go.wid (k' := 30) (n' := 180) (by decide) (by decide) ?_
      refine Go.wk' (wks (wks (wks (wks (wkn (wks (wks (wks (wks (wks (wkn (wks (wkn (wkn (wks (wkn (wks (wks (wks wk0))))))))))))))))))) ?_
      exact x_Q_follows_511 hf hI k0 e
    · replace e := ite_f c2 e
      refine Go.run (pc' := 490) [.lload 13] (ls' := [some (.ref a0), none, some (.long y2), none, some (.int x4), none, none, none, none, none, some (.int x10), none, some (.int x12), some (.long y13), none, some (.long y15), none, none, none]) (st' := [.long y13]) (by decide +kernel) rfl rfl ?_
      refine Go.ldc2 lo_Q_160 (by decide +kernel) ?_
      refine Go.run (pc' := 494) [.lcmp] (ls' := [some (.ref a0), none, some (.long y2), none, some (.int x4), none, none, none, none, none, some (.int x10), none, some (.int x12), some (.long y13), none, some (.long y15), none, none, none]) (st' := [.int (lg_cmp y13 (-1 : Int64))]) (by decide +kernel) rfl rfl ?_
      refine Go.if_eq (off := 21) (tgt := 515) (by decide +kernel) (by decide) (fun c3 => ?_) (fun c3 => ?_)
      · replace e := ite_t c3 e
        refine Go.wid (k' := 30) (n' := 180) (by decide) (by decide) ?_
        refine Go.wk' (wks (wks (wks (wks (wkn (wks (wks (wks (wks (wks (wkn (wks (wkn (wkn (wks (wkn (wks (wks (wks wk0))))))))))))))))))) ?_
        exact x_Q_follows_515 hf hI k0 e
      · replace e := ite_f c3 e
        refine Go.run (pc' := 504) [.lload 15, .aload_n 0, .iload 10, .bipush (7)] (ls' := [some (.ref a0), none, some (.long y2), none, some (.int x4), none, none, none, none, none, some (.int x10), none, some (.int x12), some (.long y13), none, some (.long y15), none, none, none]) (st' := [.int (7 : Int32), .int x10, .ref a0, .long y15]) (by decide +kernel) rfl rfl ?_
        obtain ⟨v4, e5, e⟩ := bd_inv e
        refine Go.callH (M2 := m_Q_dealerOf) (as := [.ref a0, .int x10, .int (7 : Int32)]) (rest := [.long y15]) (v := some (.long v4.1)) (h1 := v4.2) (x_Q_dealerOf hf hI k0 e5) wh_Q_126 (by decide +kernel) rfl rfl ⟨⟨Nat.le_of_ble_eq_true rfl, Nat.le_of_ble_eq_true rfl⟩, ⟨Nat.le_of_ble_eq_true rfl, Nat.le_of_ble_eq_true rfl⟩⟩ (Nat.le_of_ble_eq_true rfl) ?_
        show Go l D ad aC (rmk m_Q_follows) _ m_Q_follows 507 [some (.ref a0), none, some (.long y2), none, some (.int x4), none, none, none, none, none, some (.int x10), none, some (.int x12), some (.long y13), none, some (.long y15), none, none, none] [.long v4.1, .long y15] v4.2 30 180
        refine Go.run (pc' := 508) [.lcmp] (ls' := [some (.ref a0), none, some (.long y2), none, some (.int x4), none, none, none, none, none, some (.int x10), none, some (.int x12), some (.long y13), none, some (.long y15), none, none, none]) (st' := [.int (lg_cmp y15 v4.1)]) (by decide +kernel) rfl rfl ?_
        refine Go.if_gt (off := 7) (tgt := 515) (by decide +kernel) (by decide) (fun c6 => ?_) (fun c6 => ?_)
        · replace e := ite_t c6 e
          refine Go.wk' (wks (wks (wks (wks (wkn (wks (wks (wks (wks (wks (wkn (wks (wkn (wkn (wks (wkn (wks (wks (wks wk0))))))))))))))))))) ?_
          exact x_Q_follows_515 hf hI k0 e
        · replace e := ite_f c6 e
          refine Go.wk' (wks (wks (wks (wks (wkn (wks (wks (wks (wks (wks (wkn (wks (wkn (wkn (wks (wkn (wks (wks (wks wk0))))))))))))))))))) ?_
          exact x_Q_follows_511 hf hI k0 e
def f_Q_follows_476  (a0 : Nat) (y2 : Int64) (x10 : Int32) (x12 : Int32) (y13 : Int64) (y15 : Int64) (s0 : Int32) (h : HP) : Option (Int32 × HP) :=
  f_Q_follows_478 a0 y2 s0 x10 x12 y13 y15 h
set_option maxHeartbeats 4000000 in
theorem x_Q_follows_476 {l : Launch} {D : va_G} {ad : Nat → Nat} {aC : Nat → ClassId} (hf : l.flags = flags0) (hI : Inj ad) {a0 : Nat} {y2 : Int64} {x10 : Int32} {x12 : Int32} {y13 : Int64} {y15 : Int64} {s0 : Int32} {h : HP} {r : Int32 × HP} (k0 : knd a0 = 7) (e : f_Q_follows_476 a0 y2 x10 x12 y13 y15 s0 h = some r) : Go l D ad aC (rmk m_Q_follows) (QM D ad aC m_Q_follows (.inl (some (.int r.1))) r.2) m_Q_follows 476 [some (.ref a0), none, some (.long y2), none, none, none, none, none, none, none, some (.int x10), none, some (.int x12), some (.long y13), none, some (.long y15), none, none, none] [.int s0] h 29 174 := by
  unfold f_Q_follows_476 at e
  refine Go.run (pc' := 478) [.istore 4] (ls' := [some (.ref a0), none, some (.long y2), none, some (.int s0), none, none, none, none, none, some (.int x10), none, some (.int x12), some (.long y13), none, some (.long y15), none, none, none]) (st' := []) (by decide +kernel) rfl rfl ?_
  exact x_Q_follows_478 hf hI k0 e
def f_Q_follows_475  (a0 : Nat) (y2 : Int64) (x10 : Int32) (x12 : Int32) (y13 : Int64) (y15 : Int64) (h : HP) : Option (Int32 × HP) :=
  f_Q_follows_476 a0 y2 x10 x12 y13 y15 (0 : Int32) h
set_option maxHeartbeats 4000000 in
theorem x_Q_follows_475 {l : Launch} {D : va_G} {ad : Nat → Nat} {aC : Nat → ClassId} (hf : l.flags = flags0) (hI : Inj ad) {a0 : Nat} {y2 : Int64} {x10 : Int32} {x12 : Int32} {y13 : Int64} {y15 : Int64} {h : HP} {r : Int32 × HP} (k0 : knd a0 = 7) (e : f_Q_follows_475 a0 y2 x10 x12 y13 y15 h = some r) : Go l D ad aC (rmk m_Q_follows) (QM D ad aC m_Q_follows (.inl (some (.int r.1))) r.2) m_Q_follows 475 [some (.ref a0), none, some (.long y2), none, none, none, none, none, none, none, some (.int x10), none, some (.int x12), some (.long y13), none, some (.long y15), none, none, none] [] h 29 174 := by
  unfold f_Q_follows_475 at e
  refine Go.run (pc' := 476) [.iconst 0] (ls' := [some (.ref a0), none, some (.long y2), none, none, none, none, none, none, none, some (.int x10), none, some (.int x12), some (.long y13), none, some (.long y15), none, none, none]) (st' := [.int (0 : Int32)]) (by decide +kernel) rfl rfl ?_
  exact x_Q_follows_476 hf hI k0 e
def f_Q_follows_471  (a0 : Nat) (y2 : Int64) (x10 : Int32) (x12 : Int32) (y13 : Int64) (y15 : Int64) (h : HP) : Option (Int32 × HP) :=
  f_Q_follows_476 a0 y2 x10 x12 y13 y15 (1 : Int32) h
set_option maxHeartbeats 4000000 in
theorem x_Q_follows_471 {l : Launch} {D : va_G} {ad : Nat → Nat} {aC : Nat → ClassId} (hf : l.flags = flags0) (hI : Inj ad) {a0 : Nat} {y2 : Int64} {x10 : Int32} {x12 : Int32} {y13 : Int64} {y15 : Int64} {h : HP} {r : Int32 × HP} (k0 : knd a0 = 7) (e : f_Q_follows_471 a0 y2 x10 x12 y13 y15 h = some r) : Go l D ad aC (rmk m_Q_follows) (QM D ad aC m_Q_follows (.inl (some (.int r.1))) r.2) m_Q_follows 471 [some (.ref a0), none, some (.long y2), none, none, none, none, none, none, none, some (.int x10), none, some (.int x12), some (.long y13), none, some (.long y15), none, none, none] [] h 29 174 := by
  unfold f_Q_follows_471 at e
  refine Go.run (pc' := 472) [.iconst 1] (ls' := [some (.ref a0), none, some (.long y2), none, none, none, none, none, none, none, some (.int x10), none, some (.int x12), some (.long y13), none, some (.long y15), none, none, none]) (st' := [.int (1 : Int32)]) (by decide +kernel) rfl rfl ?_
  refine Go.goto (off := 4) (tgt := 476) (by decide +kernel) (by decide) ?_
  exact x_Q_follows_476 hf hI k0 e
def f_Q_follows_411  (a0 : Nat) (y2 : Int64) (x10 : Int32) (x12 : Int32) (y13 : Int64) (y15 : Int64) (h : HP) : Option (Int32 × HP) :=
  (f_Q_place h a0 x10 (y13.toInt32 / (100 : Int32)) (y13.toInt32 - y13.toInt32 / (100 : Int32) * (100 : Int32))).bind fun v1 =>
  if (lg_cmp v1.1 (0 : Int64)) = 0 then
    (f_Q_dealerOf v1.2 a0 x10 (7 : Int32)).bind fun v4 =>
    if (lg_cmp v4.1 y15) = 0 then
      (f_Q_undo v4.2 a0).bind fun v7 =>
      if (lg_cmp v7.1 (0 : Int64)) < 0 then
        f_Q_follows_475 a0 y2 x10 x12 y13 y15 v7.2
      else
        if x12 = 0 then
          f_Q_follows_471 a0 y2 x10 x12 y13 y15 v7.2
        else
          (f_Q_undo v7.2 a0).bind fun v11 =>
          if (lg_cmp v11.1 (0 : Int64)) < 0 then
            f_Q_follows_475 a0 y2 x10 x12 y13 y15 v11.2
          else
            f_Q_follows_471 a0 y2 x10 x12 y13 y15 v11.2
    else
      f_Q_follows_475 a0 y2 x10 x12 y13 y15 v4.2
  else
    f_Q_follows_475 a0 y2 x10 x12 y13 y15 v1.2
set_option maxHeartbeats 4000000 in
theorem x_Q_follows_411 {l : Launch} {D : va_G} {ad : Nat → Nat} {aC : Nat → ClassId} (hf : l.flags = flags0) (hI : Inj ad) {a0 : Nat} {y2 : Int64} {x10 : Int32} {x12 : Int32} {y13 : Int64} {y15 : Int64} {h : HP} {r : Int32 × HP} (k0 : knd a0 = 7) (e : f_Q_follows_411 a0 y2 x10 x12 y13 y15 h = some r) : Go l D ad aC (rmk m_Q_follows) (QM D ad aC m_Q_follows (.inl (some (.int r.1))) r.2) m_Q_follows 411 [some (.ref a0), none, some (.long y2), none, none, none, none, none, none, none, some (.int x10), none, some (.int x12), some (.long y13), none, some (.long y15), none, none, none] [] h 25 150 := by
  unfold f_Q_follows_411 at e
  refine Go.run (pc' := 426) [.aload_n 0, .iload 10, .lload 13, .l2i, .bipush (100), .idiv, .lload 13, .l2i, .bipush (100), .irem] (ls' := [some (.ref a0), none, some (.long y2), none, none, none, none, none, none, none, some (.int x10), none, some (.int x12), some (.long y13), none, some (.long y15), none, none, none]) (st' := [.int (y13.toInt32 - y13.toInt32 / (100 : Int32) * (100 : Int32)), .int (y13.toInt32 / (100 : Int32)), .int x10, .ref a0]) (by decide +kernel) rfl rfl ?_
  obtain ⟨v1, e2, e⟩ := bd_inv e
  refine Go.callH (M2 := m_Q_place) (as := [.ref a0, .int x10, .int (y13.toInt32 / (100 : Int32)), .int (y13.toInt32 - y13.toInt32 / (100 : Int32) * (100 : Int32))]) (rest := []) (v := some (.long v1.1)) (h1 := v1.2) (x_Q_place hf hI k0 e2) wh_Q_142 (by decide +kernel) rfl rfl ⟨⟨Nat.le_of_ble_eq_true rfl, Nat.le_of_ble_eq_true rfl⟩, ⟨Nat.le_of_ble_eq_true rfl, Nat.le_of_ble_eq_true rfl⟩⟩ (Nat.le_of_ble_eq_true rfl) ?_
  show Go l D ad aC (rmk m_Q_follows) _ m_Q_follows 429 [some (.ref a0), none, some (.long y2), none, none, none, none, none, none, none, some (.int x10), none, some (.int x12), some (.long y13), none, some (.long y15), none, none, none] [.long v1.1] v1.2 26 156
  refine Go.run (pc' := 431) [.lconst 0, .lcmp] (ls' := [some (.ref a0), none, some (.long y2), none, none, none, none, none, none, none, some (.int x10), none, some (.int x12), some (.long y13), none, some (.long y15), none, none, none]) (st' := [.int (lg_cmp v1.1 (0 : Int64))]) (by decide +kernel) rfl rfl ?_
  refine Go.if_ne (off := 44) (tgt := 475) (by decide +kernel) (by decide) (fun c3 => ?_) (fun c3 => ?_)
  · replace e := ite_f c3 e
    refine Go.wid (k' := 29) (n' := 174) (by decide) (by decide) ?_
    exact x_Q_follows_475 hf hI k0 e
  · replace e := ite_t c3 e
    refine Go.run (pc' := 439) [.aload_n 0, .iload 10, .bipush (7)] (ls' := [some (.ref a0), none, some (.long y2), none, none, none, none, none, none, none, some (.int x10), none, some (.int x12), some (.long y13), none, some (.long y15), none, none, none]) (st' := [.int (7 : Int32), .int x10, .ref a0]) (by decide +kernel) rfl rfl ?_
    obtain ⟨v4, e5, e⟩ := bd_inv e
    refine Go.callH (M2 := m_Q_dealerOf) (as := [.ref a0, .int x10, .int (7 : Int32)]) (rest := []) (v := some (.long v4.1)) (h1 := v4.2) (x_Q_dealerOf hf hI k0 e5) wh_Q_126 (by decide +kernel) rfl rfl ⟨⟨Nat.le_of_ble_eq_true rfl, Nat.le_of_ble_eq_true rfl⟩, ⟨Nat.le_of_ble_eq_true rfl, Nat.le_of_ble_eq_true rfl⟩⟩ (Nat.le_of_ble_eq_true rfl) ?_
    show Go l D ad aC (rmk m_Q_follows) _ m_Q_follows 442 [some (.ref a0), none, some (.long y2), none, none, none, none, none, none, none, some (.int x10), none, some (.int x12), some (.long y13), none, some (.long y15), none, none, none] [.long v4.1] v4.2 27 162
    refine Go.run (pc' := 445) [.lload 15, .lcmp] (ls' := [some (.ref a0), none, some (.long y2), none, none, none, none, none, none, none, some (.int x10), none, some (.int x12), some (.long y13), none, some (.long y15), none, none, none]) (st' := [.int (lg_cmp v4.1 y15)]) (by decide +kernel) rfl rfl ?_
    refine Go.if_ne (off := 30) (tgt := 475) (by decide +kernel) (by decide) (fun c6 => ?_) (fun c6 => ?_)
    · replace e := ite_f c6 e
      refine Go.wid (k' := 29) (n' := 174) (by decide) (by decide) ?_
      exact x_Q_follows_475 hf hI k0 e
    · replace e := ite_t c6 e
      refine Go.run (pc' := 449) [.aload_n 0] (ls' := [some (.ref a0), none, some (.long y2), none, none, none, none, none, none, none, some (.int x10), none, some (.int x12), some (.long y13), none, some (.long y15), none, none, none]) (st' := [.ref a0]) (by decide +kernel) rfl rfl ?_
      obtain ⟨v7, e8, e⟩ := bd_inv e
      refine Go.callH (M2 := m_Q_undo) (as := [.ref a0]) (rest := []) (v := some (.long v7.1)) (h1 := v7.2) (x_Q_undo hf hI k0 e8) wh_Q_185 (by decide +kernel) rfl rfl ⟨⟨Nat.le_of_ble_eq_true rfl, Nat.le_of_ble_eq_true rfl⟩, ⟨Nat.le_of_ble_eq_true rfl, Nat.le_of_ble_eq_true rfl⟩⟩ (Nat.le_of_ble_eq_true rfl) ?_
      show Go l D ad aC (rmk m_Q_follows) _ m_Q_follows 452 [some (.ref a0), none, some (.long y2), none, none, none, none, none, none, none, some (.int x10), none, some (.int x12), some (.long y13), none, some (.long y15), none, none, none] [.long v7.1] v7.2 28 168
      refine Go.run (pc' := 454) [.lconst 0, .lcmp] (ls' := [some (.ref a0), none, some (.long y2), none, none, none, none, none, none, none, some (.int x10), none, some (.int x12), some (.long y13), none, some (.long y15), none, none, none]) (st' := [.int (lg_cmp v7.1 (0 : Int64))]) (by decide +kernel) rfl rfl ?_
      refine Go.if_lt (off := 21) (tgt := 475) (by decide +kernel) (by decide) (fun c9 => ?_) (fun c9 => ?_)
      · replace e := ite_t c9 e
        refine Go.wid (k' := 29) (n' := 174) (by decide) (by decide) ?_
        exact x_Q_follows_475 hf hI k0 e
      · replace e := ite_f c9 e
        refine Go.run (pc' := 459) [.iload 12] (ls' := [some (.ref a0), none, some (.long y2), none, none, none, none, none, none, none, some (.int x10), none, some (.int x12), some (.long y13), none, some (.long y15), none, none, none]) (st' := [.int x12]) (by decide +kernel) rfl rfl ?_
        refine Go.if_eq (off := 12) (tgt := 471) (by decide +kernel) (by decide) (fun c10 => ?_) (fun c10 => ?_)
        · replace e := ite_t c10 e
          refine Go.wid (k' := 29) (n' := 174) (by decide) (by decide) ?_
          exact x_Q_follows_471 hf hI k0 e
        · replace e := ite_f c10 e
          refine Go.run (pc' := 463) [.aload_n 0] (ls' := [some (.ref a0), none, some (.long y2), none, none, none, none, none, none, none, some (.int x10), none, some (.int x12), some (.long y13), none, some (.long y15), none, none, none]) (st' := [.ref a0]) (by decide +kernel) rfl rfl ?_
          obtain ⟨v11, e12, e⟩ := bd_inv e
          refine Go.callH (M2 := m_Q_undo) (as := [.ref a0]) (rest := []) (v := some (.long v11.1)) (h1 := v11.2) (x_Q_undo hf hI k0 e12) wh_Q_185 (by decide +kernel) rfl rfl ⟨⟨Nat.le_of_ble_eq_true rfl, Nat.le_of_ble_eq_true rfl⟩, ⟨Nat.le_of_ble_eq_true rfl, Nat.le_of_ble_eq_true rfl⟩⟩ (Nat.le_of_ble_eq_true rfl) ?_
          show Go l D ad aC (rmk m_Q_follows) _ m_Q_follows 466 [some (.ref a0), none, some (.long y2), none, none, none, none, none, none, none, some (.int x10), none, some (.int x12), some (.long y13), none, some (.long y15), none, none, none] [.long v11.1] v11.2 29 174
          refine Go.run (pc' := 468) [.lconst 0, .lcmp] (ls' := [some (.ref a0), none, some (.long y2), none, none, none, none, none, none, none, some (.int x10), none, some (.int x12), some (.long y13), none, some (.long y15), none, none, none]) (st' := [.int (lg_cmp v11.1 (0 : Int64))]) (by decide +kernel) rfl rfl ?_
          refine Go.if_lt (off := 7) (tgt := 475) (by decide +kernel) (by decide) (fun c13 => ?_) (fun c13 => ?_)
          · replace e := ite_t c13 e
            exact x_Q_follows_475 hf hI k0 e
          · replace e := ite_f c13 e
            exact x_Q_follows_471 hf hI k0 e
def f_Q_follows_348  (a0 : Nat) (y2 : Int64) (x10 : Int32) (x12 : Int32) (y13 : Int64) (y15 : Int64) (s0 : Int32) (h : HP) : Option (Int32 × HP) :=
  if (lg_cmp y13 (-1 : Int64)) = 0 then
    f_Q_follows_478 a0 y2 s0 x10 x12 y13 y15 h
  else
    if s0 = 0 then
      f_Q_follows_478 a0 y2 s0 x10 x12 y13 y15 h
    else
      (f_Q_rentIf h a0 x10 (y13.toInt32 / (100 : Int32)) (y13.toInt32 - y13.toInt32 / (100 : Int32) * (100 : Int32))).bind fun v3 =>
      if (lg_cmp v3.1 y15) = 0 then
        if x12 = 0 then
          f_Q_follows_411 a0 y2 x10 x12 y13 y15 v3.2
        else
          (f_Q_leave v3.2 a0 x10).bind fun v7 =>
          (f_Q_dealerOf v7.2 a0 x10 (8 : Int32)).bind fun v9 =>
          if (lg_cmp v7.1 v9.1) = 0 then
            f_Q_follows_411 a0 y2 x10 x12 y13 y15 v9.2
          else
            f_Q_follows_475 a0 y2 x10 x12 y13 y15 v9.2
      else
        f_Q_follows_475 a0 y2 x10 x12 y13 y15 v3.2
set_option maxHeartbeats 4000000 in
theorem x_Q_follows_348 {l : Launch} {D : va_G} {ad : Nat → Nat} {aC : Nat → ClassId} (hf : l.flags = flags0) (hI : Inj ad) {a0 : Nat} {y2 : Int64} {x10 : Int32} {x12 : Int32} {y13 : Int64} {y15 : Int64} {s0 : Int32} {h : HP} {r : Int32 × HP} (k0 : knd a0 = 7) (e : f_Q_follows_348 a0 y2 x10 x12 y13 y15 s0 h = some r) : Go l D ad aC (rmk m_Q_follows) (QM D ad aC m_Q_follows (.inl (some (.int r.1))) r.2) m_Q_follows 348 [some (.ref a0), none, some (.long y2), none, none, none, none, none, none, none, some (.int x10), none, some (.int x12), some (.long y13), none, some (.long y15), none, none, none] [.int s0] h 22 132 := by
  unfold f_Q_follows_348 at e
  refine Go.run (pc' := 352) [.istore 4, .lload 13] (ls' := [some (.ref a0), none, some (.long y2), none, some (.int s0), none, none, none, none, none, some (.int x10), none, some (.int x12), some (.long y13), none, some (.long y15), none, none, none]) (st' := [.long y13]) (by decide +kernel) rfl rfl ?_
  refine Go.ldc2 lo_Q_160 (by decide +kernel) ?_
  refine Go.run (pc' := 356) [.lcmp] (ls' := [some (.ref a0), none, some (.long y2), none, some (.int s0), none, none, none, none, none, some (.int x10), none, some (.int x12), some (.long y13), none, some (.long y15), none, none, none]) (st' := [.int (lg_cmp y13 (-1 : Int64))]) (by decide +kernel) rfl rfl ?_
  refine Go.if_eq (off := 122) (tgt := 478) (by decide +kernel) (by decide) (fun c1 => ?_) (fun c1 => ?_)
  · replace e := ite_t c1 e
    refine Go.wid (k' := 29) (n' := 174) (by decide) (by decide) ?_
    exact x_Q_follows_478 hf hI k0 e
  · replace e := ite_f c1 e
    refine Go.run (pc' := 361) [.iload 4] (ls' := [some (.ref a0), none, some (.long y2), none, some (.int s0), none, none, none, none, none, some (.int x10), none, some (.int x12), some (.long y13), none, some (.long y15), none, none, none]) (st' := [.int s0]) (by decide +kernel) rfl rfl ?_
    refine Go.if_eq (off := 117) (tgt := 478) (by decide +kernel) (by decide) (fun c2 => ?_) (fun c2 => ?_)
    · replace e := ite_t c2 e
      refine Go.wid (k' := 29) (n' := 174) (by decide) (by decide) ?_
      exact x_Q_follows_478 hf hI k0 e
    · replace e := ite_f c2 e
      refine Go.run (pc' := 379) [.aload_n 0, .iload 10, .lload 13, .l2i, .bipush (100), .idiv, .lload 13, .l2i, .bipush (100), .irem] (ls' := [some (.ref a0), none, some (.long y2), none, some (.int s0), none, none, none, none, none, some (.int x10), none, some (.int x12), some (.long y13), none, some (.long y15), none, none, none]) (st' := [.int (y13.toInt32 - y13.toInt32 / (100 : Int32) * (100 : Int32)), .int (y13.toInt32 / (100 : Int32)), .int x10, .ref a0]) (by decide +kernel) rfl rfl ?_
      obtain ⟨v3, e4, e⟩ := bd_inv e
      refine Go.callH (M2 := m_Q_rentIf) (as := [.ref a0, .int x10, .int (y13.toInt32 / (100 : Int32)), .int (y13.toInt32 - y13.toInt32 / (100 : Int32) * (100 : Int32))]) (rest := []) (v := some (.long v3.1)) (h1 := v3.2) (x_Q_rentIf hf hI k0 e4) wh_Q_152 (by decide +kernel) rfl rfl ⟨⟨Nat.le_of_ble_eq_true rfl, Nat.le_of_ble_eq_true rfl⟩, ⟨Nat.le_of_ble_eq_true rfl, Nat.le_of_ble_eq_true rfl⟩⟩ (Nat.le_of_ble_eq_true rfl) ?_
      show Go l D ad aC (rmk m_Q_follows) _ m_Q_follows 382 [some (.ref a0), none, some (.long y2), none, some (.int s0), none, none, none, none, none, some (.int x10), none, some (.int x12), some (.long y13), none, some (.long y15), none, none, none] [.long v3.1] v3.2 23 138
      refine Go.run (pc' := 385) [.lload 15, .lcmp] (ls' := [some (.ref a0), none, some (.long y2), none, some (.int s0), none, none, none, none, none, some (.int x10), none, some (.int x12), some (.long y13), none, some (.long y15), none, none, none]) (st' := [.int (lg_cmp v3.1 y15)]) (by decide +kernel) rfl rfl ?_
      refine Go.if_ne (off := 90) (tgt := 475) (by decide +kernel) (by decide) (fun c5 => ?_) (fun c5 => ?_)
      · replace e := ite_f c5 e
        refine Go.wid (k' := 29) (n' := 174) (by decide) (by decide) ?_
        refine Go.wk' (wks (wks (wks (wks (wkn (wks (wks (wks (wks (wks (wks (wks (wks (wks (wks (wks (wks (wks (wks wk0))))))))))))))))))) ?_
        exact x_Q_follows_475 hf hI k0 e
      · replace e := ite_t c5 e
        refine Go.run (pc' := 390) [.iload 12] (ls' := [some (.ref a0), none, some (.long y2), none, some (.int s0), none, none, none, none, none, some (.int x10), none, some (.int x12), some (.long y13), none, some (.long y15), none, none, none]) (st' := [.int x12]) (by decide +kernel) rfl rfl ?_
        refine Go.if_eq (off := 21) (tgt := 411) (by decide +kernel) (by decide) (fun c6 => ?_) (fun c6 => ?_)
        · replace e := ite_t c6 e
          refine Go.wid (k' := 25) (n' := 150) (by decide) (by decide) ?_
          refine Go.wk' (wks (wks (wks (wks (wkn (wks (wks (wks (wks (wks (wks (wks (wks (wks (wks (wks (wks (wks (wks wk0))))))))))))))))))) ?_
          exact x_Q_follows_411 hf hI k0 e
        · replace e := ite_f c6 e
          refine Go.run (pc' := 396) [.aload_n 0, .iload 10] (ls' := [some (.ref a0), none, some (.long y2), none, some (.int s0), none, none, none, none, none, some (.int x10), none, some (.int x12), some (.long y13), none, some (.long y15), none, none, none]) (st' := [.int x10, .ref a0]) (by decide +kernel) rfl rfl ?_
          obtain ⟨v7, e8, e⟩ := bd_inv e
          refine Go.callH (M2 := m_Q_leave) (as := [.ref a0, .int x10]) (rest := []) (v := some (.long v7.1)) (h1 := v7.2) (x_Q_leave hf hI k0 e8) wh_Q_144 (by decide +kernel) rfl rfl ⟨⟨Nat.le_of_ble_eq_true rfl, Nat.le_of_ble_eq_true rfl⟩, ⟨Nat.le_of_ble_eq_true rfl, Nat.le_of_ble_eq_true rfl⟩⟩ (Nat.le_of_ble_eq_true rfl) ?_
          show Go l D ad aC (rmk m_Q_follows) _ m_Q_follows 399 [some (.ref a0), none, some (.long y2), none, some (.int s0), none, none, none, none, none, some (.int x10), none, some (.int x12), some (.long y13), none, some (.long y15), none, none, none] [.long v7.1] v7.2 24 144
          refine Go.run (pc' := 404) [.aload_n 0, .iload 10, .bipush (8)] (ls' := [some (.ref a0), none, some (.long y2), none, some (.int s0), none, none, none, none, none, some (.int x10), none, some (.int x12), some (.long y13), none, some (.long y15), none, none, none]) (st' := [.int (8 : Int32), .int x10, .ref a0, .long v7.1]) (by decide +kernel) rfl rfl ?_
          obtain ⟨v9, e10, e⟩ := bd_inv e
          refine Go.callH (M2 := m_Q_dealerOf) (as := [.ref a0, .int x10, .int (8 : Int32)]) (rest := [.long v7.1]) (v := some (.long v9.1)) (h1 := v9.2) (x_Q_dealerOf hf hI k0 e10) wh_Q_126 (by decide +kernel) rfl rfl ⟨⟨Nat.le_of_ble_eq_true rfl, Nat.le_of_ble_eq_true rfl⟩, ⟨Nat.le_of_ble_eq_true rfl, Nat.le_of_ble_eq_true rfl⟩⟩ (Nat.le_of_ble_eq_true rfl) ?_
          show Go l D ad aC (rmk m_Q_follows) _ m_Q_follows 407 [some (.ref a0), none, some (.long y2), none, some (.int s0), none, none, none, none, none, some (.int x10), none, some (.int x12), some (.long y13), none, some (.long y15), none, none, none] [.long v9.1, .long v7.1] v9.2 25 150
          refine Go.run (pc' := 408) [.lcmp] (ls' := [some (.ref a0), none, some (.long y2), none, some (.int s0), none, none, none, none, none, some (.int x10), none, some (.int x12), some (.long y13), none, some (.long y15), none, none, none]) (st' := [.int (lg_cmp v7.1 v9.1)]) (by decide +kernel) rfl rfl ?_
          refine Go.if_ne (off := 67) (tgt := 475) (by decide +kernel) (by decide) (fun c11 => ?_) (fun c11 => ?_)
          · replace e := ite_f c11 e
            refine Go.wid (k' := 29) (n' := 174) (by decide) (by decide) ?_
            refine Go.wk' (wks (wks (wks (wks (wkn (wks (wks (wks (wks (wks (wks (wks (wks (wks (wks (wks (wks (wks (wks wk0))))))))))))))))))) ?_
            exact x_Q_follows_475 hf hI k0 e
          · replace e := ite_t c11 e
            refine Go.wk' (wks (wks (wks (wks (wkn (wks (wks (wks (wks (wks (wks (wks (wks (wks (wks (wks (wks (wks (wks wk0))))))))))))))))))) ?_
            exact x_Q_follows_411 hf hI k0 e
def f_Q_follows_343  (a0 : Nat) (y2 : Int64) (x10 : Int32) (x12 : Int32) (y13 : Int64) (y15 : Int64) (h : HP) : Option (Int32 × HP) :=
  f_Q_follows_348 a0 y2 x10 x12 y13 y15 (1 : Int32) h
set_option maxHeartbeats 4000000 in
theorem x_Q_follows_343 {l : Launch} {D : va_G} {ad : Nat → Nat} {aC : Nat → ClassId} (hf : l.flags = flags0) (hI : Inj ad) {a0 : Nat} {y2 : Int64} {x10 : Int32} {x12 : Int32} {y13 : Int64} {y15 : Int64} {h : HP} {r : Int32 × HP} (k0 : knd a0 = 7) (e : f_Q_follows_343 a0 y2 x10 x12 y13 y15 h = some r) : Go l D ad aC (rmk m_Q_follows) (QM D ad aC m_Q_follows (.inl (some (.int r.1))) r.2) m_Q_follows 343 [some (.ref a0), none, some (.long y2), none, none, none, none, none, none, none, some (.int x10), none, some (.int x12), some (.long y13), none, some (.long y15), none, none, none] [] h 22 132 := by
  unfold f_Q_follows_343 at e
  refine Go.run (pc' := 344) [.iconst 1] (ls' := [some (.ref a0), none, some (.long y2), none, none, none, none, none, none, none, some (.int x10), none, some (.int x12), some (.long y13), none, some (.long y15), none, none, none]) (st' := [.int (1 : Int32)]) (by decide +kernel) rfl rfl ?_
  refine Go.goto (off := 4) (tgt := 348) (by decide +kernel) (by decide) ?_
  exact x_Q_follows_348 hf hI k0 e
def f_Q_follows_347  (a0 : Nat) (y2 : Int64) (x10 : Int32) (x12 : Int32) (y13 : Int64) (y15 : Int64) (h : HP) : Option (Int32 × HP) :=
  f_Q_follows_348 a0 y2 x10 x12 y13 y15 (0 : Int32) h
set_option maxHeartbeats 4000000 in
theorem x_Q_follows_347 {l : Launch} {D : va_G} {ad : Nat → Nat} {aC : Nat → ClassId} (hf : l.flags = flags0) (hI : Inj ad) {a0 : Nat} {y2 : Int64} {x10 : Int32} {x12 : Int32} {y13 : Int64} {y15 : Int64} {h : HP} {r : Int32 × HP} (k0 : knd a0 = 7) (e : f_Q_follows_347 a0 y2 x10 x12 y13 y15 h = some r) : Go l D ad aC (rmk m_Q_follows) (QM D ad aC m_Q_follows (.inl (some (.int r.1))) r.2) m_Q_follows 347 [some (.ref a0), none, some (.long y2), none, none, none, none, none, none, none, some (.int x10), none, some (.int x12), some (.long y13), none, some (.long y15), none, none, none] [] h 22 132 := by
  unfold f_Q_follows_347 at e
  refine Go.run (pc' := 348) [.iconst 0] (ls' := [some (.ref a0), none, some (.long y2), none, none, none, none, none, none, none, some (.int x10), none, some (.int x12), some (.long y13), none, some (.long y15), none, none, none]) (st' := [.int (0 : Int32)]) (by decide +kernel) rfl rfl ?_
  exact x_Q_follows_348 hf hI k0 e
def f_Q_follows_311  (a0 : Nat) (y2 : Int64) (x10 : Int32) (x11 : Int32) (x12 : Int32) (y13 : Int64) (y15 : Int64) (t0 : Int64) (h : HP) : Option (Int32 × HP) :=
  if x10 = x11 then
    f_Q_follows_343 a0 y2 x10 x12 y13 y15 h
  else
    (f_Q_swap h a0 x10 x11).bind fun v2 =>
    if (lg_cmp v2.1 t0) = 0 then
      (f_Q_undo v2.2 a0).bind fun v5 =>
      if (lg_cmp v5.1 (0 : Int64)) < 0 then
        f_Q_follows_347 a0 y2 x10 x12 y13 y15 v5.2
      else
        f_Q_follows_343 a0 y2 x10 x12 y13 y15 v5.2
    else
      f_Q_follows_347 a0 y2 x10 x12 y13 y15 v2.2
set_option maxHeartbeats 4000000 in
theorem x_Q_follows_311 {l : Launch} {D : va_G} {ad : Nat → Nat} {aC : Nat → ClassId} (hf : l.flags = flags0) (hI : Inj ad) {a0 : Nat} {y2 : Int64} {x10 : Int32} {x11 : Int32} {x12 : Int32} {y13 : Int64} {y15 : Int64} {t0 : Int64} {h : HP} {r : Int32 × HP} (k0 : knd a0 = 7) (e : f_Q_follows_311 a0 y2 x10 x11 x12 y13 y15 t0 h = some r) : Go l D ad aC (rmk m_Q_follows) (QM D ad aC m_Q_follows (.inl (some (.int r.1))) r.2) m_Q_follows 311 [some (.ref a0), none, some (.long y2), none, none, none, none, none, none, none, some (.int x10), some (.int x11), some (.int x12), some (.long y13), none, some (.long y15), none, none, none] [.long t0] h 20 120 := by
  unfold f_Q_follows_311 at e
  refine Go.run (pc' := 317) [.lstore 17, .iload 10, .iload 11] (ls' := [some (.ref a0), none, some (.long y2), none, none, none, none, none, none, none, some (.int x10), some (.int x11), some (.int x12), some (.long y13), none, some (.long y15), none, some (.long t0), none]) (st' := [.int x11, .int x10]) (by decide +kernel) rfl rfl ?_
  refine Go.ic_eq (off := 26) (tgt := 343) (by decide +kernel) (by decide) (fun c1 => ?_) (fun c1 => ?_)
  · replace e := ite_t c1 e
    refine Go.wid (k' := 22) (n' := 132) (by decide) (by decide) ?_
    refine Go.wk' (wks (wks (wks (wks (wks (wks (wks (wks (wks (wks (wks (wkn (wks (wks (wks (wks (wks (wkn (wks wk0))))))))))))))))))) ?_
    exact x_Q_follows_343 hf hI k0 e
  · replace e := ite_f c1 e
    refine Go.run (pc' := 325) [.aload_n 0, .iload 10, .iload 11] (ls' := [some (.ref a0), none, some (.long y2), none, none, none, none, none, none, none, some (.int x10), some (.int x11), some (.int x12), some (.long y13), none, some (.long y15), none, some (.long t0), none]) (st' := [.int x11, .int x10, .ref a0]) (by decide +kernel) rfl rfl ?_
    obtain ⟨v2, e3, e⟩ := bd_inv e
    refine Go.callH (M2 := m_Q_swap) (as := [.ref a0, .int x10, .int x11]) (rest := []) (v := some (.long v2.1)) (h1 := v2.2) (x_Q_swap hf hI k0 e3) wh_Q_146 (by decide +kernel) rfl rfl ⟨⟨Nat.le_of_ble_eq_true rfl, Nat.le_of_ble_eq_true rfl⟩, ⟨Nat.le_of_ble_eq_true rfl, Nat.le_of_ble_eq_true rfl⟩⟩ (Nat.le_of_ble_eq_true rfl) ?_
    show Go l D ad aC (rmk m_Q_follows) _ m_Q_follows 328 [some (.ref a0), none, some (.long y2), none, none, none, none, none, none, none, some (.int x10), some (.int x11), some (.int x12), some (.long y13), none, some (.long y15), none, some (.long t0), none] [.long v2.1] v2.2 21 126
    refine Go.run (pc' := 331) [.lload 17, .lcmp] (ls' := [some (.ref a0), none, some (.long y2), none, none, none, none, none, none, none, some (.int x10), some (.int x11), some (.int x12), some (.long y13), none, some (.long y15), none, some (.long t0), none]) (st' := [.int (lg_cmp v2.1 t0)]) (by decide +kernel) rfl rfl ?_
    refine Go.if_ne (off := 16) (tgt := 347) (by decide +kernel) (by decide) (fun c4 => ?_) (fun c4 => ?_)
    · replace e := ite_f c4 e
      refine Go.wid (k' := 22) (n' := 132) (by decide) (by decide) ?_
      refine Go.wk' (wks (wks (wks (wks (wks (wks (wks (wks (wks (wks (wks (wkn (wks (wks (wks (wks (wks (wkn (wks wk0))))))))))))))))))) ?_
      exact x_Q_follows_347 hf hI k0 e
    · replace e := ite_t c4 e
      refine Go.run (pc' := 335) [.aload_n 0] (ls' := [some (.ref a0), none, some (.long y2), none, none, none, none, none, none, none, some (.int x10), some (.int x11), some (.int x12), some (.long y13), none, some (.long y15), none, some (.long t0), none]) (st' := [.ref a0]) (by decide +kernel) rfl rfl ?_
      obtain ⟨v5, e6, e⟩ := bd_inv e
      refine Go.callH (M2 := m_Q_undo) (as := [.ref a0]) (rest := []) (v := some (.long v5.1)) (h1 := v5.2) (x_Q_undo hf hI k0 e6) wh_Q_185 (by decide +kernel) rfl rfl ⟨⟨Nat.le_of_ble_eq_true rfl, Nat.le_of_ble_eq_true rfl⟩, ⟨Nat.le_of_ble_eq_true rfl, Nat.le_of_ble_eq_true rfl⟩⟩ (Nat.le_of_ble_eq_true rfl) ?_
      show Go l D ad aC (rmk m_Q_follows) _ m_Q_follows 338 [some (.ref a0), none, some (.long y2), none, none, none, none, none, none, none, some (.int x10), some (.int x11), some (.int x12), some (.long y13), none, some (.long y15), none, some (.long t0), none] [.long v5.1] v5.2 22 132
      refine Go.run (pc' := 340) [.lconst 0, .lcmp] (ls' := [some (.ref a0), none, some (.long y2), none, none, none, none, none, none, none, some (.int x10), some (.int x11), some (.int x12), some (.long y13), none, some (.long y15), none, some (.long t0), none]) (st' := [.int (lg_cmp v5.1 (0 : Int64))]) (by decide +kernel) rfl rfl ?_
      refine Go.if_lt (off := 7) (tgt := 347) (by decide +kernel) (by decide) (fun c7 => ?_) (fun c7 => ?_)
      · replace e := ite_t c7 e
        refine Go.wk' (wks (wks (wks (wks (wks (wks (wks (wks (wks (wks (wks (wkn (wks (wks (wks (wks (wks (wkn (wks wk0))))))))))))))))))) ?_
        exact x_Q_follows_347 hf hI k0 e
      · replace e := ite_f c7 e
        refine Go.wk' (wks (wks (wks (wks (wks (wks (wks (wks (wks (wks (wks (wkn (wks (wks (wks (wks (wks (wkn (wks wk0))))))))))))))))))) ?_
        exact x_Q_follows_343 hf hI k0 e
def f_Q_follows_272  (a0 : Nat) (y2 : Int64) (x10 : Int32) (x11 : Int32) (s0 : Int32) (h : HP) : Option (Int32 × HP) :=
  (f_Q_cheapest h a0 x10 (0 : Int32)).bind fun v1 =>
  (f_Q_cheapest v1.2 a0 x10 (1 : Int32)).bind fun v3 =>
  if x10 = x11 then
    f_Q_follows_311 a0 y2 x10 x11 s0 v1.1 v3.1 (0 : Int64) v3.2
  else
    (f_Q_why v3.2 a0 x10 x11).bind fun v6 =>
    f_Q_follows_311 a0 y2 x10 x11 s0 v1.1 v3.1 v6.1 v6.2
set_option maxHeartbeats 4000000 in
theorem x_Q_follows_272 {l : Launch} {D : va_G} {ad : Nat → Nat} {aC : Nat → ClassId} (hf : l.flags = flags0) (hI : Inj ad) {a0 : Nat} {y2 : Int64} {x10 : Int32} {x11 : Int32} {s0 : Int32} {h : HP} {r : Int32 × HP} (k0 : knd a0 = 7) (e : f_Q_follows_272 a0 y2 x10 x11 s0 h = some r) : Go l D ad aC (rmk m_Q_follows) (QM D ad aC m_Q_follows (.inl (some (.int r.1))) r.2) m_Q_follows 272 [some (.ref a0), none, some (.long y2), none, none, none, none, none, none, none, some (.int x10), some (.int x11), none, none, none, none, none, none, none] [.int s0] h 17 102 := by
  unfold f_Q_follows_272 at e
  refine Go.run (pc' := 278) [.istore 12, .aload_n 0, .iload 10, .iconst 0] (ls' := [some (.ref a0), none, some (.long y2), none, none, none, none, none, none, none, some (.int x10), some (.int x11), some (.int s0), none, none, none, none, none, none]) (st' := [.int (0 : Int32), .int x10, .ref a0]) (by decide +kernel) rfl rfl ?_
  obtain ⟨v1, e2, e⟩ := bd_inv e
  refine Go.callH (M2 := m_Q_cheapest) (as := [.ref a0, .int x10, .int (0 : Int32)]) (rest := []) (v := some (.long v1.1)) (h1 := v1.2) (x_Q_cheapest hf hI k0 e2) wh_Q_154 (by decide +kernel) rfl rfl ⟨⟨Nat.le_of_ble_eq_true rfl, Nat.le_of_ble_eq_true rfl⟩, ⟨Nat.le_of_ble_eq_true rfl, Nat.le_of_ble_eq_true rfl⟩⟩ (Nat.le_of_ble_eq_true rfl) ?_
  show Go l D ad aC (rmk m_Q_follows) _ m_Q_follows 281 [some (.ref a0), none, some (.long y2), none, none, none, none, none, none, none, some (.int x10), some (.int x11), some (.int s0), none, none, none, none, none, none] [.long v1.1] v1.2 18 108
  refine Go.run (pc' := 287) [.lstore 13, .aload_n 0, .iload 10, .iconst 1] (ls' := [some (.ref a0), none, some (.long y2), none, none, none, none, none, none, none, some (.int x10), some (.int x11), some (.int s0), some (.long v1.1), none, none, none, none, none]) (st' := [.int (1 : Int32), .int x10, .ref a0]) (by decide +kernel) rfl rfl ?_
  obtain ⟨v3, e4, e⟩ := bd_inv e
  refine Go.callH (M2 := m_Q_cheapest) (as := [.ref a0, .int x10, .int (1 : Int32)]) (rest := []) (v := some (.long v3.1)) (h1 := v3.2) (x_Q_cheapest hf hI k0 e4) wh_Q_154 (by decide +kernel) rfl rfl ⟨⟨Nat.le_of_ble_eq_true rfl, Nat.le_of_ble_eq_true rfl⟩, ⟨Nat.le_of_ble_eq_true rfl, Nat.le_of_ble_eq_true rfl⟩⟩ (Nat.le_of_ble_eq_true rfl) ?_
  show Go l D ad aC (rmk m_Q_follows) _ m_Q_follows 290 [some (.ref a0), none, some (.long y2), none, none, none, none, none, none, none, some (.int x10), some (.int x11), some (.int s0), some (.long v1.1), none, none, none, none, none] [.long v3.1] v3.2 19 114
  refine Go.run (pc' := 296) [.lstore 15, .iload 10, .iload 11] (ls' := [some (.ref a0), none, some (.long y2), none, none, none, none, none, none, none, some (.int x10), some (.int x11), some (.int s0), some (.long v1.1), none, some (.long v3.1), none, none, none]) (st' := [.int x11, .int x10]) (by decide +kernel) rfl rfl ?_
  refine Go.ic_ne (off := 7) (tgt := 303) (by decide +kernel) (by decide) (fun c5 => ?_) (fun c5 => ?_)
  · replace e := ite_f c5 e
    refine Go.run (pc' := 308) [.aload_n 0, .iload 10, .iload 11] (ls' := [some (.ref a0), none, some (.long y2), none, none, none, none, none, none, none, some (.int x10), some (.int x11), some (.int s0), some (.long v1.1), none, some (.long v3.1), none, none, none]) (st' := [.int x11, .int x10, .ref a0]) (by decide +kernel) rfl rfl ?_
    obtain ⟨v6, e7, e⟩ := bd_inv e
    refine Go.callH (M2 := m_Q_why) (as := [.ref a0, .int x10, .int x11]) (rest := []) (v := some (.long v6.1)) (h1 := v6.2) (x_Q_why hf hI k0 e7) wh_Q_158 (by decide +kernel) rfl rfl ⟨⟨Nat.le_of_ble_eq_true rfl, Nat.le_of_ble_eq_true rfl⟩, ⟨Nat.le_of_ble_eq_true rfl, Nat.le_of_ble_eq_true rfl⟩⟩ (Nat.le_of_ble_eq_true rfl) ?_
    show Go l D ad aC (rmk m_Q_follows) _ m_Q_follows 311 [some (.ref a0), none, some (.long y2), none, none, none, none, none, none, none, some (.int x10), some (.int x11), some (.int s0), some (.long v1.1), none, some (.long v3.1), none, none, none] [.long v6.1] v6.2 20 120
    exact x_Q_follows_311 hf hI k0 e
  · replace e := ite_t c5 e
    refine Go.run (pc' := 300) [.lconst 0] (ls' := [some (.ref a0), none, some (.long y2), none, none, none, none, none, none, none, some (.int x10), some (.int x11), some (.int s0), some (.long v1.1), none, some (.long v3.1), none, none, none]) (st' := [.long (0 : Int64)]) (by decide +kernel) rfl rfl ?_
    refine Go.goto (off := 11) (tgt := 311) (by decide +kernel) (by decide) ?_
    refine Go.wid (k' := 20) (n' := 120) (by decide) (by decide) ?_
    exact x_Q_follows_311 hf hI k0 e
def f_Q_follows_215  (a0 : Nat) (x1 : Int32) (y2 : Int64) (x4 : Int32) (h : HP) : Option (Int32 × HP) :=
  (f_Q_about h a0 (1 : Int32)).bind fun v1 =>
  if (lg_cmp v1.1 (0 : Int64)) ≤ 0 then
    f_Q_follows_518 a0 y2 x4 v1.2
  else
    if x4 = 0 then
      f_Q_follows_518 a0 y2 x4 v1.2
    else
      (f_Q_about v1.2 a0 (1 : Int32)).bind fun v5 =>
      if ¬ v5.1.toInt32 = 0 then
      (f_Q_about v5.2 a0 (1 : Int32)).bind fun v8 =>
      if ¬ v8.1.toInt32 = 0 then
      (f_Q_dealerOf v8.2 a0 (x1 - x1 / v5.1.toInt32 * v5.1.toInt32) (3 : Int32)).bind fun v11 =>
      if (lg_cmp v11.1 (-1 : Int64)) = 0 then
        f_Q_follows_272 a0 y2 (x1 - x1 / v5.1.toInt32 * v5.1.toInt32) ((x1 / (7 : Int32)) - (x1 / (7 : Int32)) / v8.1.toInt32 * v8.1.toInt32) (0 : Int32) v11.2
      else
        f_Q_follows_272 a0 y2 (x1 - x1 / v5.1.toInt32 * v5.1.toInt32) ((x1 / (7 : Int32)) - (x1 / (7 : Int32)) / v8.1.toInt32 * v8.1.toInt32) (1 : Int32) v11.2
      else none
      else none
set_option maxHeartbeats 4000000 in
theorem x_Q_follows_215 {l : Launch} {D : va_G} {ad : Nat → Nat} {aC : Nat → ClassId} (hf : l.flags = flags0) (hI : Inj ad) {a0 : Nat} {x1 : Int32} {y2 : Int64} {x4 : Int32} {h : HP} {r : Int32 × HP} (k0 : knd a0 = 7) (e : f_Q_follows_215 a0 x1 y2 x4 h = some r) : Go l D ad aC (rmk m_Q_follows) (QM D ad aC m_Q_follows (.inl (some (.int r.1))) r.2) m_Q_follows 215 [some (.ref a0), some (.int x1), some (.long y2), none, some (.int x4), none, none, none, none, none, none, none, none, none, none, none, none, none, none] [] h 13 78 := by
  unfold f_Q_follows_215 at e
  refine Go.run (pc' := 217) [.aload_n 0, .iconst 1] (ls' := [some (.ref a0), some (.int x1), some (.long y2), none, some (.int x4), none, none, none, none, none, none, none, none, none, none, none, none, none, none]) (st' := [.int (1 : Int32), .ref a0]) (by decide +kernel) rfl rfl ?_
  obtain ⟨v1, e2, e⟩ := bd_inv e
  refine Go.callH (M2 := m_Q_about) (as := [.ref a0, .int (1 : Int32)]) (rest := []) (v := some (.long v1.1)) (h1 := v1.2) (x_Q_about hf hI k0 e2) wh_Q_111 (by decide +kernel) rfl rfl ⟨⟨Nat.le_of_ble_eq_true rfl, Nat.le_of_ble_eq_true rfl⟩, ⟨Nat.le_of_ble_eq_true rfl, Nat.le_of_ble_eq_true rfl⟩⟩ (Nat.le_of_ble_eq_true rfl) ?_
  show Go l D ad aC (rmk m_Q_follows) _ m_Q_follows 220 [some (.ref a0), some (.int x1), some (.long y2), none, some (.int x4), none, none, none, none, none, none, none, none, none, none, none, none, none, none] [.long v1.1] v1.2 14 84
  refine Go.run (pc' := 222) [.lconst 0, .lcmp] (ls' := [some (.ref a0), some (.int x1), some (.long y2), none, some (.int x4), none, none, none, none, none, none, none, none, none, none, none, none, none, none]) (st' := [.int (lg_cmp v1.1 (0 : Int64))]) (by decide +kernel) rfl rfl ?_
  refine Go.if_le (off := 296) (tgt := 518) (by decide +kernel) (by decide) (fun c3 => ?_) (fun c3 => ?_)
  · replace e := ite_t c3 e
    refine Go.wid (k' := 30) (n' := 180) (by decide) (by decide) ?_
    refine Go.wk' (wks (wkn (wks (wks (wks (wks (wks (wks (wks (wks (wks (wks (wks (wks (wks (wks (wks (wks (wks wk0))))))))))))))))))) ?_
    exact x_Q_follows_518 hf hI k0 e
  · replace e := ite_f c3 e
    refine Go.run (pc' := 227) [.iload 4] (ls' := [some (.ref a0), some (.int x1), some (.long y2), none, some (.int x4), none, none, none, none, none, none, none, none, none, none, none, none, none, none]) (st' := [.int x4]) (by decide +kernel) rfl rfl ?_
    refine Go.if_eq (off := 291) (tgt := 518) (by decide +kernel) (by decide) (fun c4 => ?_) (fun c4 => ?_)
    · replace e := ite_t c4 e
      refine Go.wid (k' := 30) (n' := 180) (by decide) (by decide) ?_
      refine Go.wk' (wks (wkn (wks (wks (wks (wks (wks (wks (wks (wks (wks (wks (wks (wks (wks (wks (wks (wks (wks wk0))))))))))))))))))) ?_
      exact x_Q_follows_518 hf hI k0 e
    · replace e := ite_f c4 e
      refine Go.run (pc' := 233) [.iload_n 1, .aload_n 0, .iconst 1] (ls' := [some (.ref a0), some (.int x1), some (.long y2), none, some (.int x4), none, none, none, none, none, none, none, none, none, none, none, none, none, none]) (st' := [.int (1 : Int32), .ref a0, .int x1]) (by decide +kernel) rfl rfl ?_
      obtain ⟨v5, e6, e⟩ := bd_inv e
      refine Go.callH (M2 := m_Q_about) (as := [.ref a0, .int (1 : Int32)]) (rest := [.int x1]) (v := some (.long v5.1)) (h1 := v5.2) (x_Q_about hf hI k0 e6) wh_Q_111 (by decide +kernel) rfl rfl ⟨⟨Nat.le_of_ble_eq_true rfl, Nat.le_of_ble_eq_true rfl⟩, ⟨Nat.le_of_ble_eq_true rfl, Nat.le_of_ble_eq_true rfl⟩⟩ (Nat.le_of_ble_eq_true rfl) ?_
      show Go l D ad aC (rmk m_Q_follows) _ m_Q_follows 236 [some (.ref a0), some (.int x1), some (.long y2), none, some (.int x4), none, none, none, none, none, none, none, none, none, none, none, none, none, none] [.long v5.1, .int x1] v5.2 15 90
      refine Go.run (pc' := 237) [.l2i] (ls' := [some (.ref a0), some (.int x1), some (.long y2), none, some (.int x4), none, none, none, none, none, none, none, none, none, none, none, none, none, none]) (st' := [.int v5.1.toInt32, .int x1]) (by decide +kernel) rfl rfl ?_
      obtain ⟨g7, e⟩ := gd_inv e
      refine Go.iremn g7 (by decide +kernel) ?_
      refine Go.run (pc' := 246) [.istore 10, .iload_n 1, .bipush (7), .idiv, .aload_n 0, .iconst 1] (ls' := [some (.ref a0), some (.int x1), some (.long y2), none, some (.int x4), none, none, none, none, none, some (.int (x1 - x1 / v5.1.toInt32 * v5.1.toInt32)), none, none, none, none, none, none, none, none]) (st' := [.int (1 : Int32), .ref a0, .int (x1 / (7 : Int32))]) (by decide +kernel) rfl rfl ?_
      obtain ⟨v8, e9, e⟩ := bd_inv e
      refine Go.callH (M2 := m_Q_about) (as := [.ref a0, .int (1 : Int32)]) (rest := [.int (x1 / (7 : Int32))]) (v := some (.long v8.1)) (h1 := v8.2) (x_Q_about hf hI k0 e9) wh_Q_111 (by decide +kernel) rfl rfl ⟨⟨Nat.le_of_ble_eq_true rfl, Nat.le_of_ble_eq_true rfl⟩, ⟨Nat.le_of_ble_eq_true rfl, Nat.le_of_ble_eq_true rfl⟩⟩ (Nat.le_of_ble_eq_true rfl) ?_
      show Go l D ad aC (rmk m_Q_follows) _ m_Q_follows 249 [some (.ref a0), some (.int x1), some (.long y2), none, some (.int x4), none, none, none, none, none, some (.int (x1 - x1 / v5.1.toInt32 * v5.1.toInt32)), none, none, none, none, none, none, none, none] [.long v8.1, .int (x1 / (7 : Int32))] v8.2 16 96
      refine Go.run (pc' := 250) [.l2i] (ls' := [some (.ref a0), some (.int x1), some (.long y2), none, some (.int x4), none, none, none, none, none, some (.int (x1 - x1 / v5.1.toInt32 * v5.1.toInt32)), none, none, none, none, none, none, none, none]) (st' := [.int v8.1.toInt32, .int (x1 / (7 : Int32))]) (by decide +kernel) rfl rfl ?_
      obtain ⟨g10, e⟩ := gd_inv e
      refine Go.iremn g10 (by decide +kernel) ?_
      refine Go.run (pc' := 257) [.istore 11, .aload_n 0, .iload 10, .iconst 3] (ls' := [some (.ref a0), some (.int x1), some (.long y2), none, some (.int x4), none, none, none, none, none, some (.int (x1 - x1 / v5.1.toInt32 * v5.1.toInt32)), some (.int ((x1 / (7 : Int32)) - (x1 / (7 : Int32)) / v8.1.toInt32 * v8.1.toInt32)), none, none, none, none, none, none, none]) (st' := [.int (3 : Int32), .int (x1 - x1 / v5.1.toInt32 * v5.1.toInt32), .ref a0]) (by decide +kernel) rfl rfl ?_
      obtain ⟨v11, e12, e⟩ := bd_inv e
      refine Go.callH (M2 := m_Q_dealerOf) (as := [.ref a0, .int (x1 - x1 / v5.1.toInt32 * v5.1.toInt32), .int (3 : Int32)]) (rest := []) (v := some (.long v11.1)) (h1 := v11.2) (x_Q_dealerOf hf hI k0 e12) wh_Q_126 (by decide +kernel) rfl rfl ⟨⟨Nat.le_of_ble_eq_true rfl, Nat.le_of_ble_eq_true rfl⟩, ⟨Nat.le_of_ble_eq_true rfl, Nat.le_of_ble_eq_true rfl⟩⟩ (Nat.le_of_ble_eq_true rfl) ?_
      show Go l D ad aC (rmk m_Q_follows) _ m_Q_follows 260 [some (.ref a0), some (.int x1), some (.long y2), none, some (.int x4), none, none, none, none, none, some (.int (x1 - x1 / v5.1.toInt32 * v5.1.toInt32)), some (.int ((x1 / (7 : Int32)) - (x1 / (7 : Int32)) / v8.1.toInt32 * v8.1.toInt32)), none, none, none, none, none, none, none] [.long v11.1] v11.2 17 102
      refine Go.ldc2 lo_Q_160 (by decide +kernel) ?_
      refine Go.run (pc' := 264) [.lcmp] (ls' := [some (.ref a0), some (.int x1), some (.long y2), none, some (.int x4), none, none, none, none, none, some (.int (x1 - x1 / v5.1.toInt32 * v5.1.toInt32)), some (.int ((x1 / (7 : Int32)) - (x1 / (7 : Int32)) / v8.1.toInt32 * v8.1.toInt32)), none, none, none, none, none, none, none]) (st' := [.int (lg_cmp v11.1 (-1 : Int64))]) (by decide +kernel) rfl rfl ?_
      refine Go.if_eq (off := 7) (tgt := 271) (by decide +kernel) (by decide) (fun c13 => ?_) (fun c13 => ?_)
      · replace e := ite_t c13 e
        refine Go.run (pc' := 272) [.iconst 0] (ls' := [some (.ref a0), some (.int x1), some (.long y2), none, some (.int x4), none, none, none, none, none, some (.int (x1 - x1 / v5.1.toInt32 * v5.1.toInt32)), some (.int ((x1 / (7 : Int32)) - (x1 / (7 : Int32)) / v8.1.toInt32 * v8.1.toInt32)), none, none, none, none, none, none, none]) (st' := [.int (0 : Int32)]) (by decide +kernel) rfl rfl ?_
        refine Go.wk' (wks (wkn (wks (wks (wkn (wks (wks (wks (wks (wks (wks (wks (wks (wks (wks (wks (wks (wks (wks wk0))))))))))))))))))) ?_
        exact x_Q_follows_272 hf hI k0 e
      · replace e := ite_f c13 e
        refine Go.run (pc' := 268) [.iconst 1] (ls' := [some (.ref a0), some (.int x1), some (.long y2), none, some (.int x4), none, none, none, none, none, some (.int (x1 - x1 / v5.1.toInt32 * v5.1.toInt32)), some (.int ((x1 / (7 : Int32)) - (x1 / (7 : Int32)) / v8.1.toInt32 * v8.1.toInt32)), none, none, none, none, none, none, none]) (st' := [.int (1 : Int32)]) (by decide +kernel) rfl rfl ?_
        refine Go.goto (off := 4) (tgt := 272) (by decide +kernel) (by decide) ?_
        refine Go.wk' (wks (wkn (wks (wks (wkn (wks (wks (wks (wks (wks (wks (wks (wks (wks (wks (wks (wks (wks (wks wk0))))))))))))))))))) ?_
        exact x_Q_follows_272 hf hI k0 e
def f_Q_follows_213  (a0 : Nat) (x1 : Int32) (y2 : Int64) (s0 : Int32) (h : HP) : Option (Int32 × HP) :=
  f_Q_follows_215 a0 x1 y2 s0 h
set_option maxHeartbeats 4000000 in
theorem x_Q_follows_213 {l : Launch} {D : va_G} {ad : Nat → Nat} {aC : Nat → ClassId} (hf : l.flags = flags0) (hI : Inj ad) {a0 : Nat} {x1 : Int32} {y2 : Int64} {s0 : Int32} {h : HP} {r : Int32 × HP} (k0 : knd a0 = 7) (e : f_Q_follows_213 a0 x1 y2 s0 h = some r) : Go l D ad aC (rmk m_Q_follows) (QM D ad aC m_Q_follows (.inl (some (.int r.1))) r.2) m_Q_follows 213 [some (.ref a0), some (.int x1), some (.long y2), none, none, none, none, none, none, none, none, none, none, none, none, none, none, none, none] [.int s0] h 13 78 := by
  unfold f_Q_follows_213 at e
  refine Go.run (pc' := 215) [.istore 4] (ls' := [some (.ref a0), some (.int x1), some (.long y2), none, some (.int s0), none, none, none, none, none, none, none, none, none, none, none, none, none, none]) (st' := []) (by decide +kernel) rfl rfl ?_
  exact x_Q_follows_215 hf hI k0 e
def f_Q_follows_212  (a0 : Nat) (x1 : Int32) (y2 : Int64) (h : HP) : Option (Int32 × HP) :=
  f_Q_follows_213 a0 x1 y2 (0 : Int32) h
set_option maxHeartbeats 4000000 in
theorem x_Q_follows_212 {l : Launch} {D : va_G} {ad : Nat → Nat} {aC : Nat → ClassId} (hf : l.flags = flags0) (hI : Inj ad) {a0 : Nat} {x1 : Int32} {y2 : Int64} {h : HP} {r : Int32 × HP} (k0 : knd a0 = 7) (e : f_Q_follows_212 a0 x1 y2 h = some r) : Go l D ad aC (rmk m_Q_follows) (QM D ad aC m_Q_follows (.inl (some (.int r.1))) r.2) m_Q_follows 212 [some (.ref a0), some (.int x1), some (.long y2), none, none, none, none, none, none, none, none, none, none, none, none, none, none, none, none] [] h 13 78 := by
  unfold f_Q_follows_212 at e
  refine Go.run (pc' := 213) [.iconst 0] (ls' := [some (.ref a0), some (.int x1), some (.long y2), none, none, none, none, none, none, none, none, none, none, none, none, none, none, none, none]) (st' := [.int (0 : Int32)]) (by decide +kernel) rfl rfl ?_
  exact x_Q_follows_213 hf hI k0 e
def f_Q_follows_114  (a0 : Nat) (x1 : Int32) (y2 : Int64) (y5 : Int64) (y7 : Int64) (s0 : Int32) (h : HP) : Option (Int32 × HP) :=
  if (lg_cmp y5 (-1 : Int64)) = 0 then
    f_Q_follows_215 a0 x1 y2 s0 h
  else
    if s0 = 0 then
      f_Q_follows_215 a0 x1 y2 s0 h
    else
      (f_Q_bestSwap h a0 (1 : Int32)).bind fun v3 =>
      if (lg_cmp v3.1 y7) ≤ 0 then
        f_Q_follows_212 a0 x1 y2 v3.2
      else
        (f_Q_why v3.2 a0 (y5.toInt32 / (10 : Int32)) (y5.toInt32 - y5.toInt32 / (10 : Int32) * (10 : Int32))).bind fun v6 =>
        if (lg_cmp v6.1 (0 : Int64)) = 0 then
          (f_Q_swap v6.2 a0 (y5.toInt32 / (10 : Int32)) (y5.toInt32 - y5.toInt32 / (10 : Int32) * (10 : Int32))).bind fun v9 =>
          if (lg_cmp v9.1 (0 : Int64)) = 0 then
            (f_Q_about v9.2 a0 (8 : Int32)).bind fun v12 =>
            if (lg_cmp v12.1 v3.1) = 0 then
              (f_Q_undo v12.2 a0).bind fun v15 =>
              if (lg_cmp v15.1 (0 : Int64)) < 0 then
                f_Q_follows_212 a0 x1 y2 v15.2
              else
                f_Q_follows_213 a0 x1 y2 (1 : Int32) v15.2
            else
              f_Q_follows_212 a0 x1 y2 v12.2
          else
            f_Q_follows_212 a0 x1 y2 v9.2
        else
          f_Q_follows_212 a0 x1 y2 v6.2
set_option maxHeartbeats 4000000 in
theorem x_Q_follows_114 {l : Launch} {D : va_G} {ad : Nat → Nat} {aC : Nat → ClassId} (hf : l.flags = flags0) (hI : Inj ad) {a0 : Nat} {x1 : Int32} {y2 : Int64} {y5 : Int64} {y7 : Int64} {s0 : Int32} {h : HP} {r : Int32 × HP} (k0 : knd a0 = 7) (e : f_Q_follows_114 a0 x1 y2 y5 y7 s0 h = some r) : Go l D ad aC (rmk m_Q_follows) (QM D ad aC m_Q_follows (.inl (some (.int r.1))) r.2) m_Q_follows 114 [some (.ref a0), some (.int x1), some (.long y2), none, none, some (.long y5), none, some (.long y7), none, none, none, none, none, none, none, none, none, none, none] [.int s0] h 8 48 := by
  unfold f_Q_follows_114 at e
  refine Go.run (pc' := 118) [.istore 4, .lload 5] (ls' := [some (.ref a0), some (.int x1), some (.long y2), none, some (.int s0), some (.long y5), none, some (.long y7), none, none, none, none, none, none, none, none, none, none, none]) (st' := [.long y5]) (by decide +kernel) rfl rfl ?_
  refine Go.ldc2 lo_Q_160 (by decide +kernel) ?_
  refine Go.run (pc' := 122) [.lcmp] (ls' := [some (.ref a0), some (.int x1), some (.long y2), none, some (.int s0), some (.long y5), none, some (.long y7), none, none, none, none, none, none, none, none, none, none, none]) (st' := [.int (lg_cmp y5 (-1 : Int64))]) (by decide +kernel) rfl rfl ?_
  refine Go.if_eq (off := 93) (tgt := 215) (by decide +kernel) (by decide) (fun c1 => ?_) (fun c1 => ?_)
  · replace e := ite_t c1 e
    refine Go.wid (k' := 13) (n' := 78) (by decide) (by decide) ?_
    refine Go.wk' (wks (wks (wks (wks (wks (wkn (wks (wkn (wks (wks (wks (wks (wks (wks (wks (wks (wks (wks (wks wk0))))))))))))))))))) ?_
    exact x_Q_follows_215 hf hI k0 e
  · replace e := ite_f c1 e
    refine Go.run (pc' := 127) [.iload 4] (ls' := [some (.ref a0), some (.int x1), some (.long y2), none, some (.int s0), some (.long y5), none, some (.long y7), none, none, none, none, none, none, none, none, none, none, none]) (st' := [.int s0]) (by decide +kernel) rfl rfl ?_
    refine Go.if_eq (off := 88) (tgt := 215) (by decide +kernel) (by decide) (fun c2 => ?_) (fun c2 => ?_)
    · replace e := ite_t c2 e
      refine Go.wid (k' := 13) (n' := 78) (by decide) (by decide) ?_
      refine Go.wk' (wks (wks (wks (wks (wks (wkn (wks (wkn (wks (wks (wks (wks (wks (wks (wks (wks (wks (wks (wks wk0))))))))))))))))))) ?_
      exact x_Q_follows_215 hf hI k0 e
    · replace e := ite_f c2 e
      refine Go.run (pc' := 132) [.aload_n 0, .iconst 1] (ls' := [some (.ref a0), some (.int x1), some (.long y2), none, some (.int s0), some (.long y5), none, some (.long y7), none, none, none, none, none, none, none, none, none, none, none]) (st' := [.int (1 : Int32), .ref a0]) (by decide +kernel) rfl rfl ?_
      obtain ⟨v3, e4, e⟩ := bd_inv e
      refine Go.callH (M2 := m_Q_bestSwap) (as := [.ref a0, .int (1 : Int32)]) (rest := []) (v := some (.long v3.1)) (h1 := v3.2) (x_Q_bestSwap hf hI k0 e4) wh_Q_156 (by decide +kernel) rfl rfl ⟨⟨Nat.le_of_ble_eq_true rfl, Nat.le_of_ble_eq_true rfl⟩, ⟨Nat.le_of_ble_eq_true rfl, Nat.le_of_ble_eq_true rfl⟩⟩ (Nat.le_of_ble_eq_true rfl) ?_
      show Go l D ad aC (rmk m_Q_follows) _ m_Q_follows 135 [some (.ref a0), some (.int x1), some (.long y2), none, some (.int s0), some (.long y5), none, some (.long y7), none, none, none, none, none, none, none, none, none, none, none] [.long v3.1] v3.2 9 54
      refine Go.run (pc' := 142) [.lstore 10, .lload 10, .lload 7, .lcmp] (ls' := [some (.ref a0), some (.int x1), some (.long y2), none, some (.int s0), some (.long y5), none, some (.long y7), none, none, some (.long v3.1), none, none, none, none, none, none, none, none]) (st' := [.int (lg_cmp v3.1 y7)]) (by decide +kernel) rfl rfl ?_
      refine Go.if_le (off := 70) (tgt := 212) (by decide +kernel) (by decide) (fun c5 => ?_) (fun c5 => ?_)
      · replace e := ite_t c5 e
        refine Go.wid (k' := 13) (n' := 78) (by decide) (by decide) ?_
        refine Go.wk' (wks (wks (wks (wks (wkn (wkn (wks (wkn (wks (wks (wkn (wks (wks (wks (wks (wks (wks (wks (wks wk0))))))))))))))))))) ?_
        exact x_Q_follows_212 hf hI k0 e
      · replace e := ite_f c5 e
        refine Go.run (pc' := 158) [.aload_n 0, .lload 5, .l2i, .bipush (10), .idiv, .lload 5, .l2i, .bipush (10), .irem] (ls' := [some (.ref a0), some (.int x1), some (.long y2), none, some (.int s0), some (.long y5), none, some (.long y7), none, none, some (.long v3.1), none, none, none, none, none, none, none, none]) (st' := [.int (y5.toInt32 - y5.toInt32 / (10 : Int32) * (10 : Int32)), .int (y5.toInt32 / (10 : Int32)), .ref a0]) (by decide +kernel) rfl rfl ?_
        obtain ⟨v6, e7, e⟩ := bd_inv e
        refine Go.callH (M2 := m_Q_why) (as := [.ref a0, .int (y5.toInt32 / (10 : Int32)), .int (y5.toInt32 - y5.toInt32 / (10 : Int32) * (10 : Int32))]) (rest := []) (v := some (.long v6.1)) (h1 := v6.2) (x_Q_why hf hI k0 e7) wh_Q_158 (by decide +kernel) rfl rfl ⟨⟨Nat.le_of_ble_eq_true rfl, Nat.le_of_ble_eq_true rfl⟩, ⟨Nat.le_of_ble_eq_true rfl, Nat.le_of_ble_eq_true rfl⟩⟩ (Nat.le_of_ble_eq_true rfl) ?_
        show Go l D ad aC (rmk m_Q_follows) _ m_Q_follows 161 [some (.ref a0), some (.int x1), some (.long y2), none, some (.int s0), some (.long y5), none, some (.long y7), none, none, some (.long v3.1), none, none, none, none, none, none, none, none] [.long v6.1] v6.2 10 60
        refine Go.run (pc' := 163) [.lconst 0, .lcmp] (ls' := [some (.ref a0), some (.int x1), some (.long y2), none, some (.int s0), some (.long y5), none, some (.long y7), none, none, some (.long v3.1), none, none, none, none, none, none, none, none]) (st' := [.int (lg_cmp v6.1 (0 : Int64))]) (by decide +kernel) rfl rfl ?_
        refine Go.if_ne (off := 49) (tgt := 212) (by decide +kernel) (by decide) (fun c8 => ?_) (fun c8 => ?_)
        · replace e := ite_f c8 e
          refine Go.wid (k' := 13) (n' := 78) (by decide) (by decide) ?_
          refine Go.wk' (wks (wks (wks (wks (wkn (wkn (wks (wkn (wks (wks (wkn (wks (wks (wks (wks (wks (wks (wks (wks wk0))))))))))))))))))) ?_
          exact x_Q_follows_212 hf hI k0 e
        · replace e := ite_t c8 e
          refine Go.run (pc' := 179) [.aload_n 0, .lload 5, .l2i, .bipush (10), .idiv, .lload 5, .l2i, .bipush (10), .irem] (ls' := [some (.ref a0), some (.int x1), some (.long y2), none, some (.int s0), some (.long y5), none, some (.long y7), none, none, some (.long v3.1), none, none, none, none, none, none, none, none]) (st' := [.int (y5.toInt32 - y5.toInt32 / (10 : Int32) * (10 : Int32)), .int (y5.toInt32 / (10 : Int32)), .ref a0]) (by decide +kernel) rfl rfl ?_
          obtain ⟨v9, e10, e⟩ := bd_inv e
          refine Go.callH (M2 := m_Q_swap) (as := [.ref a0, .int (y5.toInt32 / (10 : Int32)), .int (y5.toInt32 - y5.toInt32 / (10 : Int32) * (10 : Int32))]) (rest := []) (v := some (.long v9.1)) (h1 := v9.2) (x_Q_swap hf hI k0 e10) wh_Q_146 (by decide +kernel) rfl rfl ⟨⟨Nat.le_of_ble_eq_true rfl, Nat.le_of_ble_eq_true rfl⟩, ⟨Nat.le_of_ble_eq_true rfl, Nat.le_of_ble_eq_true rfl⟩⟩ (Nat.le_of_ble_eq_true rfl) ?_
          show Go l D ad aC (rmk m_Q_follows) _ m_Q_follows 182 [some (.ref a0), some (.int x1), some (.long y2), none, some (.int s0), some (.long y5), none, some (.long y7), none, none, some (.long v3.1), none, none, none, none, none, none, none, none] [.long v9.1] v9.2 11 66
          refine Go.run (pc' := 184) [.lconst 0, .lcmp] (ls' := [some (.ref a0), some (.int x1), some (.long y2), none, some (.int s0), some (.long y5), none, some (.long y7), none, none, some (.long v3.1), none, none, none, none, none, none, none, none]) (st' := [.int (lg_cmp v9.1 (0 : Int64))]) (by decide +kernel) rfl rfl ?_
          refine Go.if_ne (off := 28) (tgt := 212) (by decide +kernel) (by decide) (fun c11 => ?_) (fun c11 => ?_)
          · replace e := ite_f c11 e
            refine Go.wid (k' := 13) (n' := 78) (by decide) (by decide) ?_
            refine Go.wk' (wks (wks (wks (wks (wkn (wkn (wks (wkn (wks (wks (wkn (wks (wks (wks (wks (wks (wks (wks (wks wk0))))))))))))))))))) ?_
            exact x_Q_follows_212 hf hI k0 e
          · replace e := ite_t c11 e
            refine Go.run (pc' := 190) [.aload_n 0, .bipush (8)] (ls' := [some (.ref a0), some (.int x1), some (.long y2), none, some (.int s0), some (.long y5), none, some (.long y7), none, none, some (.long v3.1), none, none, none, none, none, none, none, none]) (st' := [.int (8 : Int32), .ref a0]) (by decide +kernel) rfl rfl ?_
            obtain ⟨v12, e13, e⟩ := bd_inv e
            refine Go.callH (M2 := m_Q_about) (as := [.ref a0, .int (8 : Int32)]) (rest := []) (v := some (.long v12.1)) (h1 := v12.2) (x_Q_about hf hI k0 e13) wh_Q_111 (by decide +kernel) rfl rfl ⟨⟨Nat.le_of_ble_eq_true rfl, Nat.le_of_ble_eq_true rfl⟩, ⟨Nat.le_of_ble_eq_true rfl, Nat.le_of_ble_eq_true rfl⟩⟩ (Nat.le_of_ble_eq_true rfl) ?_
            show Go l D ad aC (rmk m_Q_follows) _ m_Q_follows 193 [some (.ref a0), some (.int x1), some (.long y2), none, some (.int s0), some (.long y5), none, some (.long y7), none, none, some (.long v3.1), none, none, none, none, none, none, none, none] [.long v12.1] v12.2 12 72
            refine Go.run (pc' := 196) [.lload 10, .lcmp] (ls' := [some (.ref a0), some (.int x1), some (.long y2), none, some (.int s0), some (.long y5), none, some (.long y7), none, none, some (.long v3.1), none, none, none, none, none, none, none, none]) (st' := [.int (lg_cmp v12.1 v3.1)]) (by decide +kernel) rfl rfl ?_
            refine Go.if_ne (off := 16) (tgt := 212) (by decide +kernel) (by decide) (fun c14 => ?_) (fun c14 => ?_)
            · replace e := ite_f c14 e
              refine Go.wid (k' := 13) (n' := 78) (by decide) (by decide) ?_
              refine Go.wk' (wks (wks (wks (wks (wkn (wkn (wks (wkn (wks (wks (wkn (wks (wks (wks (wks (wks (wks (wks (wks wk0))))))))))))))))))) ?_
              exact x_Q_follows_212 hf hI k0 e
            · replace e := ite_t c14 e
              refine Go.run (pc' := 200) [.aload_n 0] (ls' := [some (.ref a0), some (.int x1), some (.long y2), none, some (.int s0), some (.long y5), none, some (.long y7), none, none, some (.long v3.1), none, none, none, none, none, none, none, none]) (st' := [.ref a0]) (by decide +kernel) rfl rfl ?_
              obtain ⟨v15, e16, e⟩ := bd_inv e
              refine Go.callH (M2 := m_Q_undo) (as := [.ref a0]) (rest := []) (v := some (.long v15.1)) (h1 := v15.2) (x_Q_undo hf hI k0 e16) wh_Q_185 (by decide +kernel) rfl rfl ⟨⟨Nat.le_of_ble_eq_true rfl, Nat.le_of_ble_eq_true rfl⟩, ⟨Nat.le_of_ble_eq_true rfl, Nat.le_of_ble_eq_true rfl⟩⟩ (Nat.le_of_ble_eq_true rfl) ?_
              show Go l D ad aC (rmk m_Q_follows) _ m_Q_follows 203 [some (.ref a0), some (.int x1), some (.long y2), none, some (.int s0), some (.long y5), none, some (.long y7), none, none, some (.long v3.1), none, none, none, none, none, none, none, none] [.long v15.1] v15.2 13 78
              refine Go.run (pc' := 205) [.lconst 0, .lcmp] (ls' := [some (.ref a0), some (.int x1), some (.long y2), none, some (.int s0), some (.long y5), none, some (.long y7), none, none, some (.long v3.1), none, none, none, none, none, none, none, none]) (st' := [.int (lg_cmp v15.1 (0 : Int64))]) (by decide +kernel) rfl rfl ?_
              refine Go.if_lt (off := 7) (tgt := 212) (by decide +kernel) (by decide) (fun c17 => ?_) (fun c17 => ?_)
              · replace e := ite_t c17 e
                refine Go.wk' (wks (wks (wks (wks (wkn (wkn (wks (wkn (wks (wks (wkn (wks (wks (wks (wks (wks (wks (wks (wks wk0))))))))))))))))))) ?_
                exact x_Q_follows_212 hf hI k0 e
              · replace e := ite_f c17 e
                refine Go.run (pc' := 209) [.iconst 1] (ls' := [some (.ref a0), some (.int x1), some (.long y2), none, some (.int s0), some (.long y5), none, some (.long y7), none, none, some (.long v3.1), none, none, none, none, none, none, none, none]) (st' := [.int (1 : Int32)]) (by decide +kernel) rfl rfl ?_
                refine Go.goto (off := 4) (tgt := 213) (by decide +kernel) (by decide) ?_
                refine Go.wk' (wks (wks (wks (wks (wkn (wkn (wks (wkn (wks (wks (wkn (wks (wks (wks (wks (wks (wks (wks (wks wk0))))))))))))))))))) ?_
                exact x_Q_follows_213 hf hI k0 e
def f_Q_follows_113  (a0 : Nat) (x1 : Int32) (y2 : Int64) (y5 : Int64) (y7 : Int64) (h : HP) : Option (Int32 × HP) :=
  f_Q_follows_114 a0 x1 y2 y5 y7 (0 : Int32) h
set_option maxHeartbeats 4000000 in
theorem x_Q_follows_113 {l : Launch} {D : va_G} {ad : Nat → Nat} {aC : Nat → ClassId} (hf : l.flags = flags0) (hI : Inj ad) {a0 : Nat} {x1 : Int32} {y2 : Int64} {y5 : Int64} {y7 : Int64} {h : HP} {r : Int32 × HP} (k0 : knd a0 = 7) (e : f_Q_follows_113 a0 x1 y2 y5 y7 h = some r) : Go l D ad aC (rmk m_Q_follows) (QM D ad aC m_Q_follows (.inl (some (.int r.1))) r.2) m_Q_follows 113 [some (.ref a0), some (.int x1), some (.long y2), none, none, some (.long y5), none, some (.long y7), none, none, none, none, none, none, none, none, none, none, none] [] h 8 48 := by
  unfold f_Q_follows_113 at e
  refine Go.run (pc' := 114) [.iconst 0] (ls' := [some (.ref a0), some (.int x1), some (.long y2), none, none, some (.long y5), none, some (.long y7), none, none, none, none, none, none, none, none, none, none, none]) (st' := [.int (0 : Int32)]) (by decide +kernel) rfl rfl ?_
  exact x_Q_follows_114 hf hI k0 e
def f_Q_follows_54  (a0 : Nat) (x1 : Int32) (y2 : Int64) (s0 : Int32) (h : HP) : Option (Int32 × HP) :=
  (f_Q_bestSwap h a0 (0 : Int32)).bind fun v1 =>
  (f_Q_about v1.2 a0 (8 : Int32)).bind fun v3 =>
  if s0 = 0 then
    f_Q_follows_113 a0 x1 y2 v1.1 v3.1 v3.2
  else
    (f_Q_days v3.2 a0 ((1 : Int32) + (x1 - x1 / (60 : Int32) * (60 : Int32)))).bind fun v6 =>
    if (lg_cmp v6.1 ((((1 : Int32) + (x1 - x1 / (60 : Int32) * (60 : Int32))).toInt64) * v3.1)) = 0 then
      (f_Q_undo v6.2 a0).bind fun v9 =>
      if (lg_cmp v9.1 (0 : Int64)) < 0 then
        f_Q_follows_113 a0 x1 y2 v1.1 v3.1 v9.2
      else
        f_Q_follows_114 a0 x1 y2 v1.1 v3.1 (1 : Int32) v9.2
    else
      f_Q_follows_113 a0 x1 y2 v1.1 v3.1 v6.2
set_option maxHeartbeats 4000000 in
theorem x_Q_follows_54 {l : Launch} {D : va_G} {ad : Nat → Nat} {aC : Nat → ClassId} (hf : l.flags = flags0) (hI : Inj ad) {a0 : Nat} {x1 : Int32} {y2 : Int64} {s0 : Int32} {h : HP} {r : Int32 × HP} (k0 : knd a0 = 7) (e : f_Q_follows_54 a0 x1 y2 s0 h = some r) : Go l D ad aC (rmk m_Q_follows) (QM D ad aC m_Q_follows (.inl (some (.int r.1))) r.2) m_Q_follows 54 [some (.ref a0), some (.int x1), some (.long y2), none, none, none, none, none, none, none, none, none, none, none, none, none, none, none, none] [.int s0] h 4 24 := by
  unfold f_Q_follows_54 at e
  refine Go.run (pc' := 58) [.istore 4, .aload_n 0, .iconst 0] (ls' := [some (.ref a0), some (.int x1), some (.long y2), none, some (.int s0), none, none, none, none, none, none, none, none, none, none, none, none, none, none]) (st' := [.int (0 : Int32), .ref a0]) (by decide +kernel) rfl rfl ?_
  obtain ⟨v1, e2, e⟩ := bd_inv e
  refine Go.callH (M2 := m_Q_bestSwap) (as := [.ref a0, .int (0 : Int32)]) (rest := []) (v := some (.long v1.1)) (h1 := v1.2) (x_Q_bestSwap hf hI k0 e2) wh_Q_156 (by decide +kernel) rfl rfl ⟨⟨Nat.le_of_ble_eq_true rfl, Nat.le_of_ble_eq_true rfl⟩, ⟨Nat.le_of_ble_eq_true rfl, Nat.le_of_ble_eq_true rfl⟩⟩ (Nat.le_of_ble_eq_true rfl) ?_
  show Go l D ad aC (rmk m_Q_follows) _ m_Q_follows 61 [some (.ref a0), some (.int x1), some (.long y2), none, some (.int s0), none, none, none, none, none, none, none, none, none, none, none, none, none, none] [.long v1.1] v1.2 5 30
  refine Go.run (pc' := 66) [.lstore 5, .aload_n 0, .bipush (8)] (ls' := [some (.ref a0), some (.int x1), some (.long y2), none, some (.int s0), some (.long v1.1), none, none, none, none, none, none, none, none, none, none, none, none, none]) (st' := [.int (8 : Int32), .ref a0]) (by decide +kernel) rfl rfl ?_
  obtain ⟨v3, e4, e⟩ := bd_inv e
  refine Go.callH (M2 := m_Q_about) (as := [.ref a0, .int (8 : Int32)]) (rest := []) (v := some (.long v3.1)) (h1 := v3.2) (x_Q_about hf hI k0 e4) wh_Q_111 (by decide +kernel) rfl rfl ⟨⟨Nat.le_of_ble_eq_true rfl, Nat.le_of_ble_eq_true rfl⟩, ⟨Nat.le_of_ble_eq_true rfl, Nat.le_of_ble_eq_true rfl⟩⟩ (Nat.le_of_ble_eq_true rfl) ?_
  show Go l D ad aC (rmk m_Q_follows) _ m_Q_follows 69 [some (.ref a0), some (.int x1), some (.long y2), none, some (.int s0), some (.long v1.1), none, none, none, none, none, none, none, none, none, none, none, none, none] [.long v3.1] v3.2 6 36
  refine Go.run (pc' := 81) [.lstore 7, .iconst 1, .iload_n 1, .bipush (60), .irem, .iadd, .istore 9, .iload 4] (ls' := [some (.ref a0), some (.int x1), some (.long y2), none, some (.int s0), some (.long v1.1), none, some (.long v3.1), none, some (.int ((1 : Int32) + (x1 - x1 / (60 : Int32) * (60 : Int32)))), none, none, none, none, none, none, none, none, none]) (st' := [.int s0]) (by decide +kernel) rfl rfl ?_
  refine Go.if_eq (off := 32) (tgt := 113) (by decide +kernel) (by decide) (fun c5 => ?_) (fun c5 => ?_)
  · replace e := ite_t c5 e
    refine Go.wid (k' := 8) (n' := 48) (by decide) (by decide) ?_
    refine Go.wk' (wks (wks (wks (wks (wkn (wks (wks (wks (wks (wkn (wks (wks (wks (wks (wks (wks (wks (wks (wks wk0))))))))))))))))))) ?_
    exact x_Q_follows_113 hf hI k0 e
  · replace e := ite_f c5 e
    refine Go.run (pc' := 87) [.aload_n 0, .iload 9] (ls' := [some (.ref a0), some (.int x1), some (.long y2), none, some (.int s0), some (.long v1.1), none, some (.long v3.1), none, some (.int ((1 : Int32) + (x1 - x1 / (60 : Int32) * (60 : Int32)))), none, none, none, none, none, none, none, none, none]) (st' := [.int ((1 : Int32) + (x1 - x1 / (60 : Int32) * (60 : Int32))), .ref a0]) (by decide +kernel) rfl rfl ?_
    obtain ⟨v6, e7, e⟩ := bd_inv e
    refine Go.callH (M2 := m_Q_days) (as := [.ref a0, .int ((1 : Int32) + (x1 - x1 / (60 : Int32) * (60 : Int32)))]) (rest := []) (v := some (.long v6.1)) (h1 := v6.2) (x_Q_days hf hI k0 e7) wh_Q_148 (by decide +kernel) rfl rfl ⟨⟨Nat.le_of_ble_eq_true rfl, Nat.le_of_ble_eq_true rfl⟩, ⟨Nat.le_of_ble_eq_true rfl, Nat.le_of_ble_eq_true rfl⟩⟩ (Nat.le_of_ble_eq_true rfl) ?_
    show Go l D ad aC (rmk m_Q_follows) _ m_Q_follows 90 [some (.ref a0), some (.int x1), some (.long y2), none, some (.int s0), some (.long v1.1), none, some (.long v3.1), none, some (.int ((1 : Int32) + (x1 - x1 / (60 : Int32) * (60 : Int32)))), none, none, none, none, none, none, none, none, none] [.long v6.1] v6.2 7 42
    refine Go.run (pc' := 97) [.iload 9, .i2l, .lload 7, .lmul, .lcmp] (ls' := [some (.ref a0), some (.int x1), some (.long y2), none, some (.int s0), some (.long v1.1), none, some (.long v3.1), none, some (.int ((1 : Int32) + (x1 - x1 / (60 : Int32) * (60 : Int32)))), none, none, none, none, none, none, none, none, none]) (st' := [.int (lg_cmp v6.1 ((((1 : Int32) + (x1 - x1 / (60 : Int32) * (60 : Int32))).toInt64) * v3.1))]) (by decide +kernel) rfl rfl ?_
    refine Go.if_ne (off := 16) (tgt := 113) (by decide +kernel) (by decide) (fun c8 => ?_) (fun c8 => ?_)
    · replace e := ite_f c8 e
      refine Go.wid (k' := 8) (n' := 48) (by decide) (by decide) ?_
      refine Go.wk' (wks (wks (wks (wks (wkn (wks (wks (wks (wks (wkn (wks (wks (wks (wks (wks (wks (wks (wks (wks wk0))))))))))))))))))) ?_
      exact x_Q_follows_113 hf hI k0 e
    · replace e := ite_t c8 e
      refine Go.run (pc' := 101) [.aload_n 0] (ls' := [some (.ref a0), some (.int x1), some (.long y2), none, some (.int s0), some (.long v1.1), none, some (.long v3.1), none, some (.int ((1 : Int32) + (x1 - x1 / (60 : Int32) * (60 : Int32)))), none, none, none, none, none, none, none, none, none]) (st' := [.ref a0]) (by decide +kernel) rfl rfl ?_
      obtain ⟨v9, e10, e⟩ := bd_inv e
      refine Go.callH (M2 := m_Q_undo) (as := [.ref a0]) (rest := []) (v := some (.long v9.1)) (h1 := v9.2) (x_Q_undo hf hI k0 e10) wh_Q_185 (by decide +kernel) rfl rfl ⟨⟨Nat.le_of_ble_eq_true rfl, Nat.le_of_ble_eq_true rfl⟩, ⟨Nat.le_of_ble_eq_true rfl, Nat.le_of_ble_eq_true rfl⟩⟩ (Nat.le_of_ble_eq_true rfl) ?_
      show Go l D ad aC (rmk m_Q_follows) _ m_Q_follows 104 [some (.ref a0), some (.int x1), some (.long y2), none, some (.int s0), some (.long v1.1), none, some (.long v3.1), none, some (.int ((1 : Int32) + (x1 - x1 / (60 : Int32) * (60 : Int32)))), none, none, none, none, none, none, none, none, none] [.long v9.1] v9.2 8 48
      refine Go.run (pc' := 106) [.lconst 0, .lcmp] (ls' := [some (.ref a0), some (.int x1), some (.long y2), none, some (.int s0), some (.long v1.1), none, some (.long v3.1), none, some (.int ((1 : Int32) + (x1 - x1 / (60 : Int32) * (60 : Int32)))), none, none, none, none, none, none, none, none, none]) (st' := [.int (lg_cmp v9.1 (0 : Int64))]) (by decide +kernel) rfl rfl ?_
      refine Go.if_lt (off := 7) (tgt := 113) (by decide +kernel) (by decide) (fun c11 => ?_) (fun c11 => ?_)
      · replace e := ite_t c11 e
        refine Go.wk' (wks (wks (wks (wks (wkn (wks (wks (wks (wks (wkn (wks (wks (wks (wks (wks (wks (wks (wks (wks wk0))))))))))))))))))) ?_
        exact x_Q_follows_113 hf hI k0 e
      · replace e := ite_f c11 e
        refine Go.run (pc' := 110) [.iconst 1] (ls' := [some (.ref a0), some (.int x1), some (.long y2), none, some (.int s0), some (.long v1.1), none, some (.long v3.1), none, some (.int ((1 : Int32) + (x1 - x1 / (60 : Int32) * (60 : Int32)))), none, none, none, none, none, none, none, none, none]) (st' := [.int (1 : Int32)]) (by decide +kernel) rfl rfl ?_
        refine Go.goto (off := 4) (tgt := 114) (by decide +kernel) (by decide) ?_
        refine Go.wk' (wks (wks (wks (wks (wkn (wks (wks (wks (wks (wkn (wks (wks (wks (wks (wks (wks (wks (wks (wks wk0))))))))))))))))))) ?_
        exact x_Q_follows_114 hf hI k0 e
def f_Q_follows_53  (a0 : Nat) (x1 : Int32) (y2 : Int64) (h : HP) : Option (Int32 × HP) :=
  f_Q_follows_54 a0 x1 y2 (0 : Int32) h
set_option maxHeartbeats 4000000 in
theorem x_Q_follows_53 {l : Launch} {D : va_G} {ad : Nat → Nat} {aC : Nat → ClassId} (hf : l.flags = flags0) (hI : Inj ad) {a0 : Nat} {x1 : Int32} {y2 : Int64} {h : HP} {r : Int32 × HP} (k0 : knd a0 = 7) (e : f_Q_follows_53 a0 x1 y2 h = some r) : Go l D ad aC (rmk m_Q_follows) (QM D ad aC m_Q_follows (.inl (some (.int r.1))) r.2) m_Q_follows 53 [some (.ref a0), some (.int x1), some (.long y2), none, none, none, none, none, none, none, none, none, none, none, none, none, none, none, none] [] h 4 24 := by
  unfold f_Q_follows_53 at e
  refine Go.run (pc' := 54) [.iconst 0] (ls' := [some (.ref a0), some (.int x1), some (.long y2), none, none, none, none, none, none, none, none, none, none, none, none, none, none, none, none]) (st' := [.int (0 : Int32)]) (by decide +kernel) rfl rfl ?_
  exact x_Q_follows_54 hf hI k0 e
def f_Q_follows (h : HP) (a0 : Nat) (x1 : Int32) : Option (Int32 × HP) :=
  (f_Q_now h a0).bind fun v1 =>
  (f_Q_save v1.2 a0 (1 : Int32)).bind fun v3 =>
  (f_Q_about v3.2 a0 (10 : Int32)).bind fun v5 =>
  if (lg_cmp v3.1 v5.1) = 0 then
    (f_Q_simulate v5.2 a0 x1.toInt64 (6 : Int32)).bind fun v8 =>
    (f_Q_simulate v8.2 a0 x1.toInt64 (6 : Int32)).bind fun v10 =>
    if (lg_cmp v8.1 v10.1) = 0 then
      (f_Q_now v10.2 a0).bind fun v13 =>
      if (lg_cmp v13.1 v1.1) = 0 then
        f_Q_follows_54 a0 x1 v1.1 (1 : Int32) v13.2
      else
        f_Q_follows_53 a0 x1 v1.1 v13.2
    else
      f_Q_follows_53 a0 x1 v1.1 v10.2
  else
    f_Q_follows_53 a0 x1 v1.1 v5.2
set_option maxHeartbeats 4000000 in
theorem x_Q_follows {l : Launch} {D : va_G} {ad : Nat → Nat} {aC : Nat → ClassId} (hf : l.flags = flags0) (hI : Inj ad) {h : HP} {a0 : Nat} {x1 : Int32} {r : Int32 × HP} (k0 : knd a0 = 7) (e : f_Q_follows h a0 x1 = some r) : CT l D ad aC m_Q_follows [.ref a0, .int x1] h (.inl (some (.int r.1))) r.2 := by
  refine CT.ofGo (by decide +kernel) rfl (Nat.le_of_ble_eq_true rfl) ?_
  unfold f_Q_follows at e
  show Go l D ad aC (rmk m_Q_follows) _ m_Q_follows 0 [some (.ref a0), some (.int x1), none, none, none, none, none, none, none, none, none, none, none, none, none, none, none, none, none] [] h 0 0
  refine Go.run (pc' := 1) [.aload_n 0] (ls' := [some (.ref a0), some (.int x1), none, none, none, none, none, none, none, none, none, none, none, none, none, none, none, none, none]) (st' := [.ref a0]) (by decide +kernel) rfl rfl ?_
  obtain ⟨v1, e2, e⟩ := bd_inv e
  refine Go.callS (M2 := m_Q_now) (as := [.ref a0]) (rest := []) (v := some (.long v1.1)) (h1 := v1.2) (x_Q_now hf hI k0 e2) ws_Q_128 (by decide +kernel) rfl rfl ⟨⟨Nat.le_of_ble_eq_true rfl, Nat.le_of_ble_eq_true rfl⟩, ⟨Nat.le_of_ble_eq_true rfl, Nat.le_of_ble_eq_true rfl⟩⟩ (Nat.le_of_ble_eq_true rfl) ?_
  show Go l D ad aC (rmk m_Q_follows) _ m_Q_follows 4 [some (.ref a0), some (.int x1), none, none, none, none, none, none, none, none, none, none, none, none, none, none, none, none, none] [.long v1.1] v1.2 0 0
  refine Go.run (pc' := 7) [.lstore_n 2, .aload_n 0, .iconst 1] (ls' := [some (.ref a0), some (.int x1), some (.long v1.1), none, none, none, none, none, none, none, none, none, none, none, none, none, none, none, none]) (st' := [.int (1 : Int32), .ref a0]) (by decide +kernel) rfl rfl ?_
  obtain ⟨v3, e4, e⟩ := bd_inv e
  refine Go.callH (M2 := m_Q_save) (as := [.ref a0, .int (1 : Int32)]) (rest := []) (v := some (.long v3.1)) (h1 := v3.2) (x_Q_save hf hI k0 e4) wh_Q_171 (by decide +kernel) rfl rfl ⟨⟨Nat.le_of_ble_eq_true rfl, Nat.le_of_ble_eq_true rfl⟩, ⟨Nat.le_of_ble_eq_true rfl, Nat.le_of_ble_eq_true rfl⟩⟩ (Nat.le_of_ble_eq_true rfl) ?_
  show Go l D ad aC (rmk m_Q_follows) _ m_Q_follows 10 [some (.ref a0), some (.int x1), some (.long v1.1), none, none, none, none, none, none, none, none, none, none, none, none, none, none, none, none] [.long v3.1] v3.2 1 6
  refine Go.run (pc' := 13) [.aload_n 0, .bipush (10)] (ls' := [some (.ref a0), some (.int x1), some (.long v1.1), none, none, none, none, none, none, none, none, none, none, none, none, none, none, none, none]) (st' := [.int (10 : Int32), .ref a0, .long v3.1]) (by decide +kernel) rfl rfl ?_
  obtain ⟨v5, e6, e⟩ := bd_inv e
  refine Go.callH (M2 := m_Q_about) (as := [.ref a0, .int (10 : Int32)]) (rest := [.long v3.1]) (v := some (.long v5.1)) (h1 := v5.2) (x_Q_about hf hI k0 e6) wh_Q_111 (by decide +kernel) rfl rfl ⟨⟨Nat.le_of_ble_eq_true rfl, Nat.le_of_ble_eq_true rfl⟩, ⟨Nat.le_of_ble_eq_true rfl, Nat.le_of_ble_eq_true rfl⟩⟩ (Nat.le_of_ble_eq_true rfl) ?_
  show Go l D ad aC (rmk m_Q_follows) _ m_Q_follows 16 [some (.ref a0), some (.int x1), some (.long v1.1), none, none, none, none, none, none, none, none, none, none, none, none, none, none, none, none] [.long v5.1, .long v3.1] v5.2 2 12
  refine Go.run (pc' := 17) [.lcmp] (ls' := [some (.ref a0), some (.int x1), some (.long v1.1), none, none, none, none, none, none, none, none, none, none, none, none, none, none, none, none]) (st' := [.int (lg_cmp v3.1 v5.1)]) (by decide +kernel) rfl rfl ?_
  refine Go.if_ne (off := 36) (tgt := 53) (by decide +kernel) (by decide) (fun c7 => ?_) (fun c7 => ?_)
  · replace e := ite_f c7 e
    refine Go.wid (k' := 4) (n' := 24) (by decide) (by decide) ?_
    exact x_Q_follows_53 hf hI k0 e
  · replace e := ite_t c7 e
    refine Go.run (pc' := 25) [.aload_n 0, .iload_n 1, .i2l, .bipush (6)] (ls' := [some (.ref a0), some (.int x1), some (.long v1.1), none, none, none, none, none, none, none, none, none, none, none, none, none, none, none, none]) (st' := [.int (6 : Int32), .long x1.toInt64, .ref a0]) (by decide +kernel) rfl rfl ?_
    obtain ⟨v8, e9, e⟩ := bd_inv e
    refine Go.callH (M2 := m_Q_simulate) (as := [.ref a0, .long x1.toInt64, .int (6 : Int32)]) (rest := []) (v := some (.long v8.1)) (h1 := v8.2) (x_Q_simulate hf hI k0 e9) wh_Q_168 (by decide +kernel) rfl rfl ⟨⟨Nat.le_of_ble_eq_true rfl, Nat.le_of_ble_eq_true rfl⟩, ⟨Nat.le_of_ble_eq_true rfl, Nat.le_of_ble_eq_true rfl⟩⟩ (Nat.le_of_ble_eq_true rfl) ?_
    show Go l D ad aC (rmk m_Q_follows) _ m_Q_follows 28 [some (.ref a0), some (.int x1), some (.long v1.1), none, none, none, none, none, none, none, none, none, none, none, none, none, none, none, none] [.long v8.1] v8.2 3 18
    refine Go.run (pc' := 33) [.aload_n 0, .iload_n 1, .i2l, .bipush (6)] (ls' := [some (.ref a0), some (.int x1), some (.long v1.1), none, none, none, none, none, none, none, none, none, none, none, none, none, none, none, none]) (st' := [.int (6 : Int32), .long x1.toInt64, .ref a0, .long v8.1]) (by decide +kernel) rfl rfl ?_
    obtain ⟨v10, e11, e⟩ := bd_inv e
    refine Go.callH (M2 := m_Q_simulate) (as := [.ref a0, .long x1.toInt64, .int (6 : Int32)]) (rest := [.long v8.1]) (v := some (.long v10.1)) (h1 := v10.2) (x_Q_simulate hf hI k0 e11) wh_Q_168 (by decide +kernel) rfl rfl ⟨⟨Nat.le_of_ble_eq_true rfl, Nat.le_of_ble_eq_true rfl⟩, ⟨Nat.le_of_ble_eq_true rfl, Nat.le_of_ble_eq_true rfl⟩⟩ (Nat.le_of_ble_eq_true rfl) ?_
    show Go l D ad aC (rmk m_Q_follows) _ m_Q_follows 36 [some (.ref a0), some (.int x1), some (.long v1.1), none, none, none, none, none, none, none, none, none, none, none, none, none, none, none, none] [.long v10.1, .long v8.1] v10.2 4 24
    refine Go.run (pc' := 37) [.lcmp] (ls' := [some (.ref a0), some (.int x1), some (.long v1.1), none, none, none, none, none, none, none, none, none, none, none, none, none, none, none, none]) (st' := [.int (lg_cmp v8.1 v10.1)]) (by decide +kernel) rfl rfl ?_
    refine Go.if_ne (off := 16) (tgt := 53) (by decide +kernel) (by decide) (fun c12 => ?_) (fun c12 => ?_)
    · replace e := ite_f c12 e
      exact x_Q_follows_53 hf hI k0 e
    · replace e := ite_t c12 e
      refine Go.run (pc' := 41) [.aload_n 0] (ls' := [some (.ref a0), some (.int x1), some (.long v1.1), none, none, none, none, none, none, none, none, none, none, none, none, none, none, none, none]) (st' := [.ref a0]) (by decide +kernel) rfl rfl ?_
      obtain ⟨v13, e14, e⟩ := bd_inv e
      refine Go.callS (M2 := m_Q_now) (as := [.ref a0]) (rest := []) (v := some (.long v13.1)) (h1 := v13.2) (x_Q_now hf hI k0 e14) ws_Q_128 (by decide +kernel) rfl rfl ⟨⟨Nat.le_of_ble_eq_true rfl, Nat.le_of_ble_eq_true rfl⟩, ⟨Nat.le_of_ble_eq_true rfl, Nat.le_of_ble_eq_true rfl⟩⟩ (Nat.le_of_ble_eq_true rfl) ?_
      show Go l D ad aC (rmk m_Q_follows) _ m_Q_follows 44 [some (.ref a0), some (.int x1), some (.long v1.1), none, none, none, none, none, none, none, none, none, none, none, none, none, none, none, none] [.long v13.1] v13.2 4 24
      refine Go.run (pc' := 46) [.lload_n 2, .lcmp] (ls' := [some (.ref a0), some (.int x1), some (.long v1.1), none, none, none, none, none, none, none, none, none, none, none, none, none, none, none, none]) (st' := [.int (lg_cmp v13.1 v1.1)]) (by decide +kernel) rfl rfl ?_
      refine Go.if_ne (off := 7) (tgt := 53) (by decide +kernel) (by decide) (fun c15 => ?_) (fun c15 => ?_)
      · replace e := ite_f c15 e
        exact x_Q_follows_53 hf hI k0 e
      · replace e := ite_t c15 e
        refine Go.run (pc' := 50) [.iconst 1] (ls' := [some (.ref a0), some (.int x1), some (.long v1.1), none, none, none, none, none, none, none, none, none, none, none, none, none, none, none, none]) (st' := [.int (1 : Int32)]) (by decide +kernel) rfl rfl ?_
        refine Go.goto (off := 4) (tgt := 54) (by decide +kernel) (by decide) ?_
        exact x_Q_follows_54 hf hI k0 e
