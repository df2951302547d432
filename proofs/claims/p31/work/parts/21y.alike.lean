/-! printed by wip/p31/genz.py: alike -/
theorem lo_Q_190 : Cond.constantLong "FairWallsLaw" 190 (4000370000) ∈ GT := gtb 1033 (by decide +kernel) (by decide +kernel)
def m_Q_alike : MI := (⟨"FairWallsLaw", "alike", "(LFairWalls;LFairWalls;I)Z"⟩, method_34_code, 3, (Option.some Jvm.ClassFile.FieldType.boolean), 11, 8, [])
theorem cw_Q_alike : codeW m_Q_alike ∈ GT := gtb 1028 (by decide +kernel) (by decide +kernel)
theorem sw_Q_alike : Cond.static m_Q_alike.y ∈ GT := gtb 1027 (by decide +kernel) (by decide +kernel)
def f_Q_alike (h : HP2) (x2 : Int32) : Option (Int32 × HP2) :=
  (f_Q_now h.1 180 ).bind fun v1 =>
  (f_Q_now h.2 180 ).bind fun v3 =>
  if (lg_cmp v1.1 v3.1) = 0 then
    (f_F_errorPosition v1.2 180 ).bind fun v6 =>
    (f_F_errorPosition v3.2 180 ).bind fun v8 =>
    if v6.1 = v8.1 then
      (f_Q_bestSwap v6.2 180 (1 : Int32)).bind fun v11 =>
      (f_Q_bestSwap v8.2 180 (1 : Int32)).bind fun v13 =>
      if (lg_cmp v11.1 v13.1) = 0 then
        (f_Q_cheapest v11.2 180 (x2 - x2 / (10 : Int32) * (10 : Int32)) (0 : Int32)).bind fun v16 =>
        (f_Q_cheapest v13.2 180 (x2 - x2 / (10 : Int32) * (10 : Int32)) (0 : Int32)).bind fun v18 =>
        if (lg_cmp v16.1 v18.1) = 0 then
          (f_Q_simulate v16.2 180 x2.toInt64 (5 : Int32)).bind fun v21 =>
          (f_Q_simulate v18.2 180 x2.toInt64 (5 : Int32)).bind fun v23 =>
          if (lg_cmp v21.1 v23.1) = 0 then
            (f_Q_script v21.2 180 (2 : Int32) ((4000370000 : Int64) + ((x2 - x2 / (99 : Int32) * (99 : Int32)).toInt64))).bind fun v26 =>
            (f_Q_script v23.2 180 (2 : Int32) ((4000370000 : Int64) + ((x2 - x2 / (99 : Int32) * (99 : Int32)).toInt64))).bind fun v28 =>
            if (lg_cmp v26.1 v28.1) = 0 then
              some ((1 : Int32), (v26.2, v28.2))
            else
              some ((0 : Int32), (v26.2, v28.2))
          else
            some ((0 : Int32), (v21.2, v23.2))
        else
          some ((0 : Int32), (v16.2, v18.2))
      else
        some ((0 : Int32), (v11.2, v13.2))
    else
      some ((0 : Int32), (v6.2, v8.2))
  else
    some ((0 : Int32), (v1.2, v3.2))
set_option maxHeartbeats 4000000 in
theorem x_Q_alike {l : Launch} {D : va_G} {aA aB : Nat → Nat} {cA cB : Nat → ClassId} (hf : l.flags = flags0) (hI : IZ aA aB) {h : HP2} {x2 : Int32} {r : Int32 × HP2} (e : f_Q_alike h x2 = some r) : CTz l D aA aB cA cB m_Q_alike [.ref 180, .ref 1180, .int x2] h (.inl (some (.int r.1))) r.2 := by
  refine CTz.ofGz (by decide +kernel) rfl (Nat.le_of_ble_eq_true rfl) ?_
  unfold f_Q_alike at e
  show Gz l D aA aB cA cB (rmk m_Q_alike) _ m_Q_alike 0 [some (.ref 180), some (.ref 1180), some (.int x2)] [] h 0 0
  refine Gz.run (pc' := 1) [.aload_n 0] (ls' := [some (.ref 180), some (.ref 1180), some (.int x2)]) (st' := [.ref 180]) (by decide +kernel) rfl rfl ?_
  obtain ⟨v1, e2, e⟩ := bd_inv e
  refine Gz.call1S (M2 := m_Q_now) (as := [.ref 180]) (as' := [.ref 180]) (rest := []) (v := some (.long v1.1)) (w := some (.long v1.1)) (h1 := v1.2) hI (x_Q_now hf hI.1 (by decide) e2) ws_Q_128 (by decide +kernel) rfl rfl rfl rfl ⟨⟨Nat.le_of_ble_eq_true rfl, Nat.le_of_ble_eq_true rfl⟩, ⟨Nat.le_of_ble_eq_true rfl, Nat.le_of_ble_eq_true rfl⟩⟩ (Nat.le_of_ble_eq_true rfl) ?_
  show Gz l D aA aB cA cB _ _ m_Q_alike 4 [some (.ref 180), some (.ref 1180), some (.int x2)] [.long v1.1] (v1.2, h.2) 0 0
  refine Gz.run (pc' := 5) [.aload_n 1] (ls' := [some (.ref 180), some (.ref 1180), some (.int x2)]) (st' := [.ref 1180, .long v1.1]) (by decide +kernel) rfl rfl ?_
  obtain ⟨v3, e4, e⟩ := bd_inv e
  refine Gz.call2S (M2 := m_Q_now) (as := [.ref 180]) (as' := [.ref 1180]) (rest := [.long v1.1]) (v := some (.long v3.1)) (w := some (.long v3.1)) (h1 := v3.2) hI (x_Q_now hf hI.2.1 (by decide) e4) ws_Q_128 (by decide +kernel) rfl rfl rfl rfl ⟨⟨Nat.le_of_ble_eq_true rfl, Nat.le_of_ble_eq_true rfl⟩, ⟨Nat.le_of_ble_eq_true rfl, Nat.le_of_ble_eq_true rfl⟩⟩ (Nat.le_of_ble_eq_true rfl) ?_
  show Gz l D aA aB cA cB _ _ m_Q_alike 8 [some (.ref 180), some (.ref 1180), some (.int x2)] [.long v3.1, .long v1.1] (v1.2, v3.2) 0 0
  refine Gz.run (pc' := 9) [.lcmp] (ls' := [some (.ref 180), some (.ref 1180), some (.int x2)]) (st' := [.int (lg_cmp v1.1 v3.1)]) (by decide +kernel) rfl rfl ?_
  refine Gz.if_ne (off := 104) (tgt := 113) (by decide +kernel) (by decide) (fun c5 => ?_) (fun c5 => ?_)
  · replace e := ite_f c5 e
    refine Gz.run (pc' := 114) [.iconst 0] (ls' := [some (.ref 180), some (.ref 1180), some (.int x2)]) (st' := [.int (0 : Int32)]) (by decide +kernel) rfl rfl ?_
    obtain rfl := Option.some.inj e
    exact Gz.zret rfl nar_z0 (by decide) (by decide) (by decide +kernel)
  · replace e := ite_t c5 e
    refine Gz.run (pc' := 13) [.aload_n 0] (ls' := [some (.ref 180), some (.ref 1180), some (.int x2)]) (st' := [.ref 180]) (by decide +kernel) rfl rfl ?_
    obtain ⟨v6, e7, e⟩ := bd_inv e
    refine Gz.call1V (M2 := m_F_errorPosition) (b := 180) (b' := 180) (as := []) (as' := []) (rest := []) (v := some (.int v6.1)) (w := some (.int v6.1)) (h1 := v6.2) hI (x_F_errorPosition hf hI.1 (by decide) e7) wv_Q_187 (by decide) kc_7 (by decide +kernel) rfl rfl rfl rfl rfl ⟨⟨Nat.le_of_ble_eq_true rfl, Nat.le_of_ble_eq_true rfl⟩, ⟨Nat.le_of_ble_eq_true rfl, Nat.le_of_ble_eq_true rfl⟩⟩ (Nat.le_of_ble_eq_true rfl) ?_
    show Gz l D aA aB cA cB _ _ m_Q_alike 16 [some (.ref 180), some (.ref 1180), some (.int x2)] [.int v6.1] (v6.2, v3.2) 0 0
    refine Gz.run (pc' := 17) [.aload_n 1] (ls' := [some (.ref 180), some (.ref 1180), some (.int x2)]) (st' := [.ref 1180, .int v6.1]) (by decide +kernel) rfl rfl ?_
    obtain ⟨v8, e9, e⟩ := bd_inv e
    refine Gz.call2V (M2 := m_F_errorPosition) (b := 180) (b' := 1180) (as := []) (as' := []) (rest := [.int v6.1]) (v := some (.int v8.1)) (w := some (.int v8.1)) (h1 := v8.2) hI (x_F_errorPosition hf hI.2.1 (by decide) e9) wv_Q_187 (by decide) kc_7 (by decide +kernel) rfl rfl rfl rfl rfl ⟨⟨Nat.le_of_ble_eq_true rfl, Nat.le_of_ble_eq_true rfl⟩, ⟨Nat.le_of_ble_eq_true rfl, Nat.le_of_ble_eq_true rfl⟩⟩ (Nat.le_of_ble_eq_true rfl) ?_
    show Gz l D aA aB cA cB _ _ m_Q_alike 20 [some (.ref 180), some (.ref 1180), some (.int x2)] [.int v8.1, .int v6.1] (v6.2, v8.2) 0 0
    refine Gz.ic_ne (off := 93) (tgt := 113) (by decide +kernel) (by decide) (fun c10 => ?_) (fun c10 => ?_)
    · replace e := ite_f c10 e
      refine Gz.run (pc' := 114) [.iconst 0] (ls' := [some (.ref 180), some (.ref 1180), some (.int x2)]) (st' := [.int (0 : Int32)]) (by decide +kernel) rfl rfl ?_
      obtain rfl := Option.some.inj e
      exact Gz.zret rfl nar_z0 (by decide) (by decide) (by decide +kernel)
    · replace e := ite_t c10 e
      refine Gz.run (pc' := 25) [.aload_n 0, .iconst 1] (ls' := [some (.ref 180), some (.ref 1180), some (.int x2)]) (st' := [.int (1 : Int32), .ref 180]) (by decide +kernel) rfl rfl ?_
      obtain ⟨v11, e12, e⟩ := bd_inv e
      refine Gz.call1H (M2 := m_Q_bestSwap) (as := [.ref 180, .int (1 : Int32)]) (as' := [.ref 180, .int (1 : Int32)]) (rest := []) (v := some (.long v11.1)) (w := some (.long v11.1)) (h1 := v11.2) hI (x_Q_bestSwap hf hI.1 (by decide) e12) wh_Q_156 (by decide +kernel) rfl rfl rfl rfl ⟨⟨Nat.le_of_ble_eq_true rfl, Nat.le_of_ble_eq_true rfl⟩, ⟨Nat.le_of_ble_eq_true rfl, Nat.le_of_ble_eq_true rfl⟩⟩ (Nat.le_of_ble_eq_true rfl) ?_
      show Gz l D aA aB cA cB _ _ m_Q_alike 28 [some (.ref 180), some (.ref 1180), some (.int x2)] [.long v11.1] (v11.2, v8.2) 1 6
      refine Gz.run (pc' := 30) [.aload_n 1, .iconst 1] (ls' := [some (.ref 180), some (.ref 1180), some (.int x2)]) (st' := [.int (1 : Int32), .ref 1180, .long v11.1]) (by decide +kernel) rfl rfl ?_
      obtain ⟨v13, e14, e⟩ := bd_inv e
      refine Gz.call2H (M2 := m_Q_bestSwap) (as := [.ref 180, .int (1 : Int32)]) (as' := [.ref 1180, .int (1 : Int32)]) (rest := [.long v11.1]) (v := some (.long v13.1)) (w := some (.long v13.1)) (h1 := v13.2) hI (x_Q_bestSwap hf hI.2.1 (by decide) e14) wh_Q_156 (by decide +kernel) rfl rfl rfl rfl ⟨⟨Nat.le_of_ble_eq_true rfl, Nat.le_of_ble_eq_true rfl⟩, ⟨Nat.le_of_ble_eq_true rfl, Nat.le_of_ble_eq_true rfl⟩⟩ (Nat.le_of_ble_eq_true rfl) ?_
      show Gz l D aA aB cA cB _ _ m_Q_alike 33 [some (.ref 180), some (.ref 1180), some (.int x2)] [.long v13.1, .long v11.1] (v11.2, v13.2) 2 12
      refine Gz.run (pc' := 34) [.lcmp] (ls' := [some (.ref 180), some (.ref 1180), some (.int x2)]) (st' := [.int (lg_cmp v11.1 v13.1)]) (by decide +kernel) rfl rfl ?_
      refine Gz.if_ne (off := 79) (tgt := 113) (by decide +kernel) (by decide) (fun c15 => ?_) (fun c15 => ?_)
      · replace e := ite_f c15 e
        refine Gz.run (pc' := 114) [.iconst 0] (ls' := [some (.ref 180), some (.ref 1180), some (.int x2)]) (st' := [.int (0 : Int32)]) (by decide +kernel) rfl rfl ?_
        obtain rfl := Option.some.inj e
        exact Gz.zret rfl nar_z0 (by decide) (by decide) (by decide +kernel)
      · replace e := ite_t c15 e
        refine Gz.run (pc' := 43) [.aload_n 0, .iload_n 2, .bipush (10), .irem, .iconst 0] (ls' := [some (.ref 180), some (.ref 1180), some (.int x2)]) (st' := [.int (0 : Int32), .int (x2 - x2 / (10 : Int32) * (10 : Int32)), .ref 180]) (by decide +kernel) rfl rfl ?_
        obtain ⟨v16, e17, e⟩ := bd_inv e
        refine Gz.call1H (M2 := m_Q_cheapest) (as := [.ref 180, .int (x2 - x2 / (10 : Int32) * (10 : Int32)), .int (0 : Int32)]) (as' := [.ref 180, .int (x2 - x2 / (10 : Int32) * (10 : Int32)), .int (0 : Int32)]) (rest := []) (v := some (.long v16.1)) (w := some (.long v16.1)) (h1 := v16.2) hI (x_Q_cheapest hf hI.1 (by decide) e17) wh_Q_154 (by decide +kernel) rfl rfl rfl rfl ⟨⟨Nat.le_of_ble_eq_true rfl, Nat.le_of_ble_eq_true rfl⟩, ⟨Nat.le_of_ble_eq_true rfl, Nat.le_of_ble_eq_true rfl⟩⟩ (Nat.le_of_ble_eq_true rfl) ?_
        show Gz l D aA aB cA cB _ _ m_Q_alike 46 [some (.ref 180), some (.ref 1180), some (.int x2)] [.long v16.1] (v16.2, v13.2) 3 18
        refine Gz.run (pc' := 52) [.aload_n 1, .iload_n 2, .bipush (10), .irem, .iconst 0] (ls' := [some (.ref 180), some (.ref 1180), some (.int x2)]) (st' := [.int (0 : Int32), .int (x2 - x2 / (10 : Int32) * (10 : Int32)), .ref 1180, .long v16.1]) (by decide +kernel) rfl rfl ?_
        obtain ⟨v18, e19, e⟩ := bd_inv e
        refine Gz.call2H (M2 := m_Q_cheapest) (as := [.ref 180, .int (x2 - x2 / (10 : Int32) * (10 : Int32)), .int (0 : Int32)]) (as' := [.ref 1180, .int (x2 - x2 / (10 : Int32) * (10 : Int32)), .int (0 : Int32)]) (rest := [.long v16.1]) (v := some (.long v18.1)) (w := some (.long v18.1)) (h1 := v18.2) hI (x_Q_cheapest hf hI.2.1 (by decide) e19) wh_Q_154 (by decide +kernel) rfl rfl rfl rfl ⟨⟨Nat.le_of_ble_eq_true rfl, Nat.le_of_ble_eq_true rfl⟩, ⟨Nat.le_of_ble_eq_true rfl, Nat.le_of_ble_eq_true rfl⟩⟩ (Nat.le_of_ble_eq_true rfl) ?_
        show Gz l D aA aB cA cB _ _ m_Q_alike 55 [some (.ref 180), some (.ref 1180), some (.int x2)] [.long v18.1, .long v16.1] (v16.2, v18.2) 4 24
        refine Gz.run (pc' := 56) [.lcmp] (ls' := [some (.ref 180), some (.ref 1180), some (.int x2)]) (st' := [.int (lg_cmp v16.1 v18.1)]) (by decide +kernel) rfl rfl ?_
        refine Gz.if_ne (off := 57) (tgt := 113) (by decide +kernel) (by decide) (fun c20 => ?_) (fun c20 => ?_)
        · replace e := ite_f c20 e
          refine Gz.run (pc' := 114) [.iconst 0] (ls' := [some (.ref 180), some (.ref 1180), some (.int x2)]) (st' := [.int (0 : Int32)]) (by decide +kernel) rfl rfl ?_
          obtain rfl := Option.some.inj e
          exact Gz.zret rfl nar_z0 (by decide) (by decide) (by decide +kernel)
        · replace e := ite_t c20 e
          refine Gz.run (pc' := 63) [.aload_n 0, .iload_n 2, .i2l, .iconst 5] (ls' := [some (.ref 180), some (.ref 1180), some (.int x2)]) (st' := [.int (5 : Int32), .long x2.toInt64, .ref 180]) (by decide +kernel) rfl rfl ?_
          obtain ⟨v21, e22, e⟩ := bd_inv e
          refine Gz.call1H (M2 := m_Q_simulate) (as := [.ref 180, .long x2.toInt64, .int (5 : Int32)]) (as' := [.ref 180, .long x2.toInt64, .int (5 : Int32)]) (rest := []) (v := some (.long v21.1)) (w := some (.long v21.1)) (h1 := v21.2) hI (x_Q_simulate hf hI.1 (by decide) e22) wh_Q_168 (by decide +kernel) rfl rfl rfl rfl ⟨⟨Nat.le_of_ble_eq_true rfl, Nat.le_of_ble_eq_true rfl⟩, ⟨Nat.le_of_ble_eq_true rfl, Nat.le_of_ble_eq_true rfl⟩⟩ (Nat.le_of_ble_eq_true rfl) ?_
          show Gz l D aA aB cA cB _ _ m_Q_alike 66 [some (.ref 180), some (.ref 1180), some (.int x2)] [.long v21.1] (v21.2, v18.2) 5 30
          refine Gz.run (pc' := 70) [.aload_n 1, .iload_n 2, .i2l, .iconst 5] (ls' := [some (.ref 180), some (.ref 1180), some (.int x2)]) (st' := [.int (5 : Int32), .long x2.toInt64, .ref 1180, .long v21.1]) (by decide +kernel) rfl rfl ?_
          obtain ⟨v23, e24, e⟩ := bd_inv e
          refine Gz.call2H (M2 := m_Q_simulate) (as := [.ref 180, .long x2.toInt64, .int (5 : Int32)]) (as' := [.ref 1180, .long x2.toInt64, .int (5 : Int32)]) (rest := [.long v21.1]) (v := some (.long v23.1)) (w := some (.long v23.1)) (h1 := v23.2) hI (x_Q_simulate hf hI.2.1 (by decide) e24) wh_Q_168 (by decide +kernel) rfl rfl rfl rfl ⟨⟨Nat.le_of_ble_eq_true rfl, Nat.le_of_ble_eq_true rfl⟩, ⟨Nat.le_of_ble_eq_true rfl, Nat.le_of_ble_eq_true rfl⟩⟩ (Nat.le_of_ble_eq_true rfl) ?_
          show Gz l D aA aB cA cB _ _ m_Q_alike 73 [some (.ref 180), some (.ref 1180), some (.int x2)] [.long v23.1, .long v21.1] (v21.2, v23.2) 6 36
          refine Gz.run (pc' := 74) [.lcmp] (ls' := [some (.ref 180), some (.ref 1180), some (.int x2)]) (st' := [.int (lg_cmp v21.1 v23.1)]) (by decide +kernel) rfl rfl ?_
          refine Gz.if_ne (off := 39) (tgt := 113) (by decide +kernel) (by decide) (fun c25 => ?_) (fun c25 => ?_)
          · replace e := ite_f c25 e
            refine Gz.run (pc' := 114) [.iconst 0] (ls' := [some (.ref 180), some (.ref 1180), some (.int x2)]) (st' := [.int (0 : Int32)]) (by decide +kernel) rfl rfl ?_
            obtain rfl := Option.some.inj e
            exact Gz.zret rfl nar_z0 (by decide) (by decide) (by decide +kernel)
          · replace e := ite_t c25 e
            refine Gz.run (pc' := 79) [.aload_n 0, .iconst 2] (ls' := [some (.ref 180), some (.ref 1180), some (.int x2)]) (st' := [.int (2 : Int32), .ref 180]) (by decide +kernel) rfl rfl ?_
            refine Gz.ldc2 lo_Q_190 (by decide +kernel) ?_
            refine Gz.run (pc' := 88) [.iload_n 2, .bipush (99), .irem, .i2l, .ladd] (ls' := [some (.ref 180), some (.ref 1180), some (.int x2)]) (st' := [.long ((4000370000 : Int64) + ((x2 - x2 / (99 : Int32) * (99 : Int32)).toInt64)), .int (2 : Int32), .ref 180]) (by decide +kernel) rfl rfl ?_
            obtain ⟨v26, e27, e⟩ := bd_inv e
            refine Gz.call1H (M2 := m_Q_script) (as := [.ref 180, .int (2 : Int32), .long ((4000370000 : Int64) + ((x2 - x2 / (99 : Int32) * (99 : Int32)).toInt64))]) (as' := [.ref 180, .int (2 : Int32), .long ((4000370000 : Int64) + ((x2 - x2 / (99 : Int32) * (99 : Int32)).toInt64))]) (rest := []) (v := some (.long v26.1)) (w := some (.long v26.1)) (h1 := v26.2) hI (x_Q_script hf hI.1 (by decide) e27) wh_Q_162 (by decide +kernel) rfl rfl rfl rfl ⟨⟨Nat.le_of_ble_eq_true rfl, Nat.le_of_ble_eq_true rfl⟩, ⟨Nat.le_of_ble_eq_true rfl, Nat.le_of_ble_eq_true rfl⟩⟩ (Nat.le_of_ble_eq_true rfl) ?_
            show Gz l D aA aB cA cB _ _ m_Q_alike 91 [some (.ref 180), some (.ref 1180), some (.int x2)] [.long v26.1] (v26.2, v23.2) 7 42
            refine Gz.run (pc' := 93) [.aload_n 1, .iconst 2] (ls' := [some (.ref 180), some (.ref 1180), some (.int x2)]) (st' := [.int (2 : Int32), .ref 1180, .long v26.1]) (by decide +kernel) rfl rfl ?_
            refine Gz.ldc2 lo_Q_190 (by decide +kernel) ?_
            refine Gz.run (pc' := 102) [.iload_n 2, .bipush (99), .irem, .i2l, .ladd] (ls' := [some (.ref 180), some (.ref 1180), some (.int x2)]) (st' := [.long ((4000370000 : Int64) + ((x2 - x2 / (99 : Int32) * (99 : Int32)).toInt64)), .int (2 : Int32), .ref 1180, .long v26.1]) (by decide +kernel) rfl rfl ?_
            obtain ⟨v28, e29, e⟩ := bd_inv e
            refine Gz.call2H (M2 := m_Q_script) (as := [.ref 180, .int (2 : Int32), .long ((4000370000 : Int64) + ((x2 - x2 / (99 : Int32) * (99 : Int32)).toInt64))]) (as' := [.ref 1180, .int (2 : Int32), .long ((4000370000 : Int64) + ((x2 - x2 / (99 : Int32) * (99 : Int32)).toInt64))]) (rest := [.long v26.1]) (v := some (.long v28.1)) (w := some (.long v28.1)) (h1 := v28.2) hI (x_Q_script hf hI.2.1 (by decide) e29) wh_Q_162 (by decide +kernel) rfl rfl rfl rfl ⟨⟨Nat.le_of_ble_eq_true rfl, Nat.le_of_ble_eq_true rfl⟩, ⟨Nat.le_of_ble_eq_true rfl, Nat.le_of_ble_eq_true rfl⟩⟩ (Nat.le_of_ble_eq_true rfl) ?_
            show Gz l D aA aB cA cB _ _ m_Q_alike 105 [some (.ref 180), some (.ref 1180), some (.int x2)] [.long v28.1, .long v26.1] (v26.2, v28.2) 8 48
            refine Gz.run (pc' := 106) [.lcmp] (ls' := [some (.ref 180), some (.ref 1180), some (.int x2)]) (st' := [.int (lg_cmp v26.1 v28.1)]) (by decide +kernel) rfl rfl ?_
            refine Gz.if_ne (off := 7) (tgt := 113) (by decide +kernel) (by decide) (fun c30 => ?_) (fun c30 => ?_)
            · replace e := ite_f c30 e
              refine Gz.run (pc' := 114) [.iconst 0] (ls' := [some (.ref 180), some (.ref 1180), some (.int x2)]) (st' := [.int (0 : Int32)]) (by decide +kernel) rfl rfl ?_
              obtain rfl := Option.some.inj e
              exact Gz.zret rfl nar_z0 (by decide) (by decide) (by decide +kernel)
            · replace e := ite_t c30 e
              refine Gz.run (pc' := 110) [.iconst 1] (ls' := [some (.ref 180), some (.ref 1180), some (.int x2)]) (st' := [.int (1 : Int32)]) (by decide +kernel) rfl rfl ?_
              refine Gz.goto (off := 4) (tgt := 114) (by decide +kernel) (by decide) ?_
              obtain rfl := Option.some.inj e
              exact Gz.zret rfl nar_z1 (by decide) (by decide) (by decide +kernel)
