/-! printed by wip/p31/gen.py: what FairWalls$Clerk compute, and the rows that tie it to the machine -/
def f_C_obeyCommand (h : HP) (a0 : Nat) (a1 : Nat) : Option (Int32 × HP) :=
  (f_T_number h a1 (0 : Int32)).bind fun v1 =>
  (f_T_number h a1 (1 : Int32)).bind fun v3 =>
  (f_T_number h a1 (2 : Int32)).bind fun v5 =>
  (f_T_letter h a1).bind fun v7 =>
  if v7 = 100 then
    (f_A_admit h a0 v1 v3 v5).bind fun v10 =>
    if v10.1 = (-1 : Int32) then
      some ((0 : Int32), v10.2)
    else
      some ((1 : Int32), v10.2)
  else
    if v7 = 101 then
      (f_A_changeSetting h a0 v1 v3).bind fun v14 =>
      if v14.1 = (-1 : Int32) then
        some ((0 : Int32), v14.2)
      else
        some ((1 : Int32), v14.2)
    else
      if v7 = 102 then
        (f_A_changeSetting h a0 v1 v3).bind fun v18 =>
        if v18.1 = (-1 : Int32) then
          some ((0 : Int32), v18.2)
        else
          some ((1 : Int32), v18.2)
      else
        if v7 = 103 then
          (f_A_changeSetting h a0 v1 v3).bind fun v22 =>
          if v22.1 = (-1 : Int32) then
            some ((0 : Int32), v22.2)
          else
            some ((1 : Int32), v22.2)
        else
          if v7 = 104 then
            (f_A_changeSetting h a0 v1 v3).bind fun v26 =>
            if v26.1 = (-1 : Int32) then
              some ((0 : Int32), v26.2)
            else
              some ((1 : Int32), v26.2)
          else
            if v7 = 105 then
              (f_A_changeSetting h a0 v1 v3).bind fun v30 =>
              if v30.1 = (-1 : Int32) then
                some ((0 : Int32), v30.2)
              else
                some ((1 : Int32), v30.2)
            else
              if v7 = 106 then
                (f_A_changeSetting h a0 v1 v3).bind fun v34 =>
                if v34.1 = (-1 : Int32) then
                  some ((0 : Int32), v34.2)
                else
                  some ((1 : Int32), v34.2)
              else
                if v7 = 107 then
                  (f_A_changeSetting h a0 v1 v3).bind fun v38 =>
                  if v38.1 = (-1 : Int32) then
                    some ((0 : Int32), v38.2)
                  else
                    some ((1 : Int32), v38.2)
                else
                  if v7 = 108 then
                    (f_A_sendAway h a0 v1).bind fun v42 =>
                    if v42.1 = (-1 : Int32) then
                      some ((0 : Int32), v42.2)
                    else
                      some ((1 : Int32), v42.2)
                  else
                    if v7 = 109 then
                      (f_A_changeSetting h a0 v1 v3).bind fun v46 =>
                      if v46.1 = (-1 : Int32) then
                        some ((0 : Int32), v46.2)
                      else
                        some ((1 : Int32), v46.2)
                    else
                      if v7 = 110 then
                        (f_A_passDays h a0 v1).bind fun v50 =>
                        if v50.1 = (-1 : Int32) then
                          some ((0 : Int32), v50.2)
                        else
                          some ((1 : Int32), v50.2)
                      else
                        if v7 = 111 then
                          (f_A_putPlugs h a0 v1 v3 v5).bind fun v54 =>
                          if v54.1 = (-1 : Int32) then
                            some ((0 : Int32), v54.2)
                          else
                            some ((1 : Int32), v54.2)
                        else
                          if v7 = 112 then
                            (f_A_letStand h a0 v1 v3 v5).bind fun v58 =>
                            if v58.1 = 0 then
                              some ((1 : Int32), v58.2)
                            else
                              some ((0 : Int32), v58.2)
                          else
                            if v7 = 113 then
                              (f_A_changeSetting h a0 v1 v3).bind fun v62 =>
                              if v62.1 = (-1 : Int32) then
                                some ((0 : Int32), v62.2)
                              else
                                some ((1 : Int32), v62.2)
                            else
                              if v7 = 114 then
                                (f_A_changeSetting h a0 v1 v3).bind fun v66 =>
                                if v66.1 = (-1 : Int32) then
                                  some ((0 : Int32), v66.2)
                                else
                                  some ((1 : Int32), v66.2)
                              else
                                if v7 = 115 then
                                  (f_A_exchange h a0 v1 v3).bind fun v70 =>
                                  if v70.1 = 0 then
                                    some ((1 : Int32), v70.2)
                                  else
                                    some ((0 : Int32), v70.2)
                                else
                                  if v7 = 116 then
                                    (f_A_changeSetting h a0 v1 v3).bind fun v74 =>
                                    if v74.1 = (-1 : Int32) then
                                      some ((0 : Int32), v74.2)
                                    else
                                      some ((1 : Int32), v74.2)
                                  else
                                    if v7 = 117 then
                                      (f_A_changeSetting h a0 v1 v3).bind fun v78 =>
                                      if v78.1 = (-1 : Int32) then
                                        some ((0 : Int32), v78.2)
                                      else
                                        some ((1 : Int32), v78.2)
                                    else
                                      if v7 = 118 then
                                        (f_A_changeSetting h a0 v1 v3).bind fun v82 =>
                                        if v82.1 = (-1 : Int32) then
                                          some ((0 : Int32), v82.2)
                                        else
                                          some ((1 : Int32), v82.2)
                                      else
                                        if v7 = 119 then
                                          (f_A_openWall h a0 v1).bind fun v86 =>
                                          if v86.1 = (-1 : Int32) then
                                            some ((0 : Int32), v86.2)
                                          else
                                            some ((1 : Int32), v86.2)
                                        else
                                          (f_A_changeSetting h a0 v1 v3).bind fun v89 =>
                                          if v89.1 = (-1 : Int32) then
                                            some ((0 : Int32), v89.2)
                                          else
                                            some ((1 : Int32), v89.2)
set_option maxHeartbeats 1000000 in
theorem x_C_obeyCommand {l : Launch} {D : va_G} {ad : Nat → Nat} {aC : Nat → ClassId} (hf : l.flags = flags0) (hI : Inj ad) {h : HP} {a0 : Nat} {a1 : Nat} {r : Int32 × HP} (k0 : knd a0 = 1) (k1 : knd a1 = 2) (e : f_C_obeyCommand h a0 a1 = some r) : CT l D ad aC m_C_obeyCommand [.ref a0, .ref a1] h (.inl (some (.int r.1))) r.2 := by
  refine CT.ofGo (by decide +kernel) rfl (Nat.le_of_ble_eq_true rfl) ?_
  unfold f_C_obeyCommand at e
  show Go l D ad aC (rmk m_C_obeyCommand) _ m_C_obeyCommand 0 [some (.ref a0), some (.ref a1), none, none, none] [] h 0 0
  refine Go.run (pc' := 2) [.aload_n 1, .iconst 0] (ls' := [some (.ref a0), some (.ref a1), none, none, none]) (st' := [.int (0 : Int32), .ref a1]) (by decide +kernel) rfl rfl ?_
  obtain ⟨v1, e2, e⟩ := bd_inv e
  refine Go.callV (M2 := m_T_number) (a := a1) (as := [.int (0 : Int32)]) (rest := []) (v := some (.int v1)) (h1 := h) (x_T_number hf hI k1 e2) wv_C_9 k1 kc_2 (by decide +kernel) rfl rfl ⟨⟨Nat.le_of_ble_eq_true rfl, Nat.le_of_ble_eq_true rfl⟩, ⟨Nat.le_of_ble_eq_true rfl, Nat.le_of_ble_eq_true rfl⟩⟩ (Nat.le_of_ble_eq_true rfl) ?_
  show Go l D ad aC (rmk m_C_obeyCommand) _ m_C_obeyCommand 5 [some (.ref a0), some (.ref a1), none, none, none] [.int v1] h 0 0
  refine Go.run (pc' := 8) [.istore_n 2, .aload_n 1, .iconst 1] (ls' := [some (.ref a0), some (.ref a1), some (.int v1), none, none]) (st' := [.int (1 : Int32), .ref a1]) (by decide +kernel) rfl rfl ?_
  obtain ⟨v3, e4, e⟩ := bd_inv e
  refine Go.callV (M2 := m_T_number) (a := a1) (as := [.int (1 : Int32)]) (rest := []) (v := some (.int v3)) (h1 := h) (x_T_number hf hI k1 e4) wv_C_9 k1 kc_2 (by decide +kernel) rfl rfl ⟨⟨Nat.le_of_ble_eq_true rfl, Nat.le_of_ble_eq_true rfl⟩, ⟨Nat.le_of_ble_eq_true rfl, Nat.le_of_ble_eq_true rfl⟩⟩ (Nat.le_of_ble_eq_true rfl) ?_
  show Go l D ad aC (rmk m_C_obeyCommand) _ m_C_obeyCommand 11 [some (.ref a0), some (.ref a1), some (.int v1), none, none] [.int v3] h 0 0
  refine Go.run (pc' := 14) [.istore_n 3, .aload_n 1, .iconst 2] (ls' := [some (.ref a0), some (.ref a1), some (.int v1), some (.int v3), none]) (st' := [.int (2 : Int32), .ref a1]) (by decide +kernel) rfl rfl ?_
  obtain ⟨v5, e6, e⟩ := bd_inv e
  refine Go.callV (M2 := m_T_number) (a := a1) (as := [.int (2 : Int32)]) (rest := []) (v := some (.int v5)) (h1 := h) (x_T_number hf hI k1 e6) wv_C_9 k1 kc_2 (by decide +kernel) rfl rfl ⟨⟨Nat.le_of_ble_eq_true rfl, Nat.le_of_ble_eq_true rfl⟩, ⟨Nat.le_of_ble_eq_true rfl, Nat.le_of_ble_eq_true rfl⟩⟩ (Nat.le_of_ble_eq_true rfl) ?_
  show Go l D ad aC (rmk m_C_obeyCommand) _ m_C_obeyCommand 17 [some (.ref a0), some (.ref a1), some (.int v1), some (.int v3), none] [.int v5] h 0 0
  refine Go.run (pc' := 20) [.istore 4, .aload_n 1] (ls' := [some (.ref a0), some (.ref a1), some (.int v1), some (.int v3), some (.int v5)]) (st' := [.ref a1]) (by decide +kernel) rfl rfl ?_
  obtain ⟨v7, e8, e⟩ := bd_inv e
  refine Go.callV (M2 := m_T_letter) (a := a1) (as := []) (rest := []) (v := some (.int v7)) (h1 := h) (x_T_letter hf hI k1 e8) wv_C_15 k1 kc_2 (by decide +kernel) rfl rfl ⟨⟨Nat.le_of_ble_eq_true rfl, Nat.le_of_ble_eq_true rfl⟩, ⟨Nat.le_of_ble_eq_true rfl, Nat.le_of_ble_eq_true rfl⟩⟩ (Nat.le_of_ble_eq_true rfl) ?_
  show Go l D ad aC (rmk m_C_obeyCommand) _ m_C_obeyCommand 23 [some (.ref a0), some (.ref a1), some (.int v1), some (.int v3), some (.int v5)] [.int v7] h 0 0
  rcases Decidable.em (v7 = 100) with c9 | c9
  · replace e := ite_t c9 e
    refine Go.tsIn (dflt := 206) (lo := 100) (hi := 119) (offs := #[126, 206, 206, 206, 206, 206, 206, 206, 161, 206, 191, 108, 144, 206, 206, 176, 206, 206, 206, 93]) (len := 93) (off := 126) (tgt := 149) 100 (by decide +kernel) (by rw [c9]; decide) (by decide) (by decide) (by decide) (by decide) ?_
    refine Go.run (pc' := 154) [.aload_n 0, .iload_n 2, .iload_n 3, .iload 4] (ls' := [some (.ref a0), some (.ref a1), some (.int v1), some (.int v3), some (.int v5)]) (st' := [.int v5, .int v3, .int v1, .ref a0]) (by decide +kernel) rfl rfl ?_
    obtain ⟨v10, e11, e⟩ := bd_inv e
    refine Go.callV (M2 := m_A_admit) (a := a0) (as := [.int v1, .int v3, .int v5]) (rest := []) (v := some (.int v10.1)) (h1 := v10.2) (x_A_admit hf hI k0 e11) wv_C_28 k0 kc_1 (by decide +kernel) rfl rfl ⟨⟨Nat.le_of_ble_eq_true rfl, Nat.le_of_ble_eq_true rfl⟩, ⟨Nat.le_of_ble_eq_true rfl, Nat.le_of_ble_eq_true rfl⟩⟩ (Nat.le_of_ble_eq_true rfl) ?_
    show Go l D ad aC (rmk m_C_obeyCommand) _ m_C_obeyCommand 157 [some (.ref a0), some (.ref a1), some (.int v1), some (.int v3), some (.int v5)] [.int v10.1] v10.2 0 0
    refine Go.run (pc' := 158) [.iconst (-1)] (ls' := [some (.ref a0), some (.ref a1), some (.int v1), some (.int v3), some (.int v5)]) (st' := [.int (-1 : Int32), .int v10.1]) (by decide +kernel) rfl rfl ?_
    refine Go.ic_eq (off := 7) (tgt := 165) (by decide +kernel) (by decide) (fun c12 => ?_) (fun c12 => ?_)
    · replace e := ite_t c12 e
      refine Go.run (pc' := 166) [.iconst 0] (ls' := [some (.ref a0), some (.ref a1), some (.int v1), some (.int v3), some (.int v5)]) (st' := [.int (0 : Int32)]) (by decide +kernel) rfl rfl ?_
      obtain rfl := Option.some.inj e
      exact Go.zret rfl nar_z0 (by decide) (by decide) (by decide +kernel)
    · replace e := ite_f c12 e
      refine Go.run (pc' := 162) [.iconst 1] (ls' := [some (.ref a0), some (.ref a1), some (.int v1), some (.int v3), some (.int v5)]) (st' := [.int (1 : Int32)]) (by decide +kernel) rfl rfl ?_
      refine Go.goto (off := 4) (tgt := 166) (by decide +kernel) (by decide) ?_
      obtain rfl := Option.some.inj e
      exact Go.zret rfl nar_z1 (by decide) (by decide) (by decide +kernel)
  replace e := ite_f c9 e
  rcases Decidable.em (v7 = 101) with c13 | c13
  · replace e := ite_t c13 e
    refine Go.tsIn (dflt := 206) (lo := 100) (hi := 119) (offs := #[126, 206, 206, 206, 206, 206, 206, 206, 161, 206, 191, 108, 144, 206, 206, 176, 206, 206, 206, 93]) (len := 93) (off := 206) (tgt := 229) 101 (by decide +kernel) (by rw [c13]; decide) (by decide) (by decide) (by decide) (by decide) ?_
    refine Go.run (pc' := 232) [.aload_n 0, .iload_n 2, .iload_n 3] (ls' := [some (.ref a0), some (.ref a1), some (.int v1), some (.int v3), some (.int v5)]) (st' := [.int v3, .int v1, .ref a0]) (by decide +kernel) rfl rfl ?_
    obtain ⟨v14, e15, e⟩ := bd_inv e
    refine Go.callV (M2 := m_A_changeSetting) (a := a0) (as := [.int v1, .int v3]) (rest := []) (v := some (.int v14.1)) (h1 := v14.2) (x_A_changeSetting hf hI k0 e15) wv_C_44 k0 kc_1 (by decide +kernel) rfl rfl ⟨⟨Nat.le_of_ble_eq_true rfl, Nat.le_of_ble_eq_true rfl⟩, ⟨Nat.le_of_ble_eq_true rfl, Nat.le_of_ble_eq_true rfl⟩⟩ (Nat.le_of_ble_eq_true rfl) ?_
    show Go l D ad aC (rmk m_C_obeyCommand) _ m_C_obeyCommand 235 [some (.ref a0), some (.ref a1), some (.int v1), some (.int v3), some (.int v5)] [.int v14.1] v14.2 0 0
    refine Go.run (pc' := 236) [.iconst (-1)] (ls' := [some (.ref a0), some (.ref a1), some (.int v1), some (.int v3), some (.int v5)]) (st' := [.int (-1 : Int32), .int v14.1]) (by decide +kernel) rfl rfl ?_
    refine Go.ic_eq (off := 7) (tgt := 243) (by decide +kernel) (by decide) (fun c16 => ?_) (fun c16 => ?_)
    · replace e := ite_t c16 e
      refine Go.run (pc' := 244) [.iconst 0] (ls' := [some (.ref a0), some (.ref a1), some (.int v1), some (.int v3), some (.int v5)]) (st' := [.int (0 : Int32)]) (by decide +kernel) rfl rfl ?_
      obtain rfl := Option.some.inj e
      exact Go.zret rfl nar_z0 (by decide) (by decide) (by decide +kernel)
    · replace e := ite_f c16 e
      refine Go.run (pc' := 240) [.iconst 1] (ls' := [some (.ref a0), some (.ref a1), some (.int v1), some (.int v3), some (.int v5)]) (st' := [.int (1 : Int32)]) (by decide +kernel) rfl rfl ?_
      refine Go.goto (off := 4) (tgt := 244) (by decide +kernel) (by decide) ?_
      obtain rfl := Option.some.inj e
      exact Go.zret rfl nar_z1 (by decide) (by decide) (by decide +kernel)
  replace e := ite_f c13 e
  rcases Decidable.em (v7 = 102) with c17 | c17
  · replace e := ite_t c17 e
    refine Go.tsIn (dflt := 206) (lo := 100) (hi := 119) (offs := #[126, 206, 206, 206, 206, 206, 206, 206, 161, 206, 191, 108, 144, 206, 206, 176, 206, 206, 206, 93]) (len := 93) (off := 206) (tgt := 229) 102 (by decide +kernel) (by rw [c17]; decide) (by decide) (by decide) (by decide) (by decide) ?_
    refine Go.run (pc' := 232) [.aload_n 0, .iload_n 2, .iload_n 3] (ls' := [some (.ref a0), some (.ref a1), some (.int v1), some (.int v3), some (.int v5)]) (st' := [.int v3, .int v1, .ref a0]) (by decide +kernel) rfl rfl ?_
    obtain ⟨v18, e19, e⟩ := bd_inv e
    refine Go.callV (M2 := m_A_changeSetting) (a := a0) (as := [.int v1, .int v3]) (rest := []) (v := some (.int v18.1)) (h1 := v18.2) (x_A_changeSetting hf hI k0 e19) wv_C_44 k0 kc_1 (by decide +kernel) rfl rfl ⟨⟨Nat.le_of_ble_eq_true rfl, Nat.le_of_ble_eq_true rfl⟩, ⟨Nat.le_of_ble_eq_true rfl, Nat.le_of_ble_eq_true rfl⟩⟩ (Nat.le_of_ble_eq_true rfl) ?_
    show Go l D ad aC (rmk m_C_obeyCommand) _ m_C_obeyCommand 235 [some (.ref a0), some (.ref a1), some (.int v1), some (.int v3), some (.int v5)] [.int v18.1] v18.2 0 0
    refine Go.run (pc' := 236) [.iconst (-1)] (ls' := [some (.ref a0), some (.ref a1), some (.int v1), some (.int v3), some (.int v5)]) (st' := [.int (-1 : Int32), .int v18.1]) (by decide +kernel) rfl rfl ?_
    refine Go.ic_eq (off := 7) (tgt := 243) (by decide +kernel) (by decide) (fun c20 => ?_) (fun c20 => ?_)
    · replace e := ite_t c20 e
      refine Go.run (pc' := 244) [.iconst 0] (ls' := [some (.ref a0), some (.ref a1), some (.int v1), some (.int v3), some (.int v5)]) (st' := [.int (0 : Int32)]) (by decide +kernel) rfl rfl ?_
      obtain rfl := Option.some.inj e
      exact Go.zret rfl nar_z0 (by decide) (by decide) (by decide +kernel)
    · replace e := ite_f c20 e
      refine Go.run (pc' := 240) [.iconst 1] (ls' := [some (.ref a0), some (.ref a1), some (.int v1), some (.int v3), some (.int v5)]) (st' := [.int (1 : Int32)]) (by decide +kernel) rfl rfl ?_
      refine Go.goto (off := 4) (tgt := 244) (by decide +kernel) (by decide) ?_
      obtain rfl := Option.some.inj e
      exact Go.zret rfl nar_z1 (by decide) (by decide) (by decide +kernel)
  replace e := ite_f c17 e
  rcases Decidable.em (v7 = 103) with c21 | c21
  · replace e := ite_t c21 e
    refine Go.tsIn (dflt := 206) (lo := 100) (hi := 119) (offs := #[126, 206, 206, 206, 206, 206, 206, 206, 161, 206, 191, 108, 144, 206, 206, 176, 206, 206, 206, 93]) (len := 93) (off := 206) (tgt := 229) 103 (by decide +kernel) (by rw [c21]; decide) (by decide) (by decide) (by decide) (by decide) ?_
    refine Go.run (pc' := 232) [.aload_n 0, .iload_n 2, .iload_n 3] (ls' := [some (.ref a0), some (.ref a1), some (.int v1), some (.int v3), some (.int v5)]) (st' := [.int v3, .int v1, .ref a0]) (by decide +kernel) rfl rfl ?_
    obtain ⟨v22, e23, e⟩ := bd_inv e
    refine Go.callV (M2 := m_A_changeSetting) (a := a0) (as := [.int v1, .int v3]) (rest := []) (v := some (.int v22.1)) (h1 := v22.2) (x_A_changeSetting hf hI k0 e23) wv_C_44 k0 kc_1 (by decide +kernel) rfl rfl ⟨⟨Nat.le_of_ble_eq_true rfl, Nat.le_of_ble_eq_true rfl⟩, ⟨Nat.le_of_ble_eq_true rfl, Nat.le_of_ble_eq_true rfl⟩⟩ (Nat.le_of_ble_eq_true rfl) ?_
    show Go l D ad aC (rmk m_C_obeyCommand) _ m_C_obeyCommand 235 [some (.ref a0), some (.ref a1), some (.int v1), some (.int v3), some (.int v5)] [.int v22.1] v22.2 0 0
    refine Go.run (pc' := 236) [.iconst (-1)] (ls' := [some (.ref a0), some (.ref a1), some (.int v1), some (.int v3), some (.int v5)]) (st' := [.int (-1 : Int32), .int v22.1]) (by decide +kernel) rfl rfl ?_
    refine Go.ic_eq (off := 7) (tgt := 243) (by decide +kernel) (by decide) (fun c24 => ?_) (fun c24 => ?_)
    · replace e := ite_t c24 e
      refine Go.run (pc' := 244) [.iconst 0] (ls' := [some (.ref a0), some (.ref a1), some (.int v1), some (.int v3), some (.int v5)]) (st' := [.int (0 : Int32)]) (by decide +kernel) rfl rfl ?_
      obtain rfl := Option.some.inj e
      exact Go.zret rfl nar_z0 (by decide) (by decide) (by decide +kernel)
    · replace e := ite_f c24 e
      refine Go.run (pc' := 240) [.iconst 1] (ls' := [some (.ref a0), some (.ref a1), some (.int v1), some (.int v3), some (.int v5)]) (st' := [.int (1 : Int32)]) (by decide +kernel) rfl rfl ?_
      refine Go.goto (off := 4) (tgt := 244) (by decide +kernel) (by decide) ?_
      obtain rfl := Option.some.inj e
      exact Go.zret rfl nar_z1 (by decide) (by decide) (by decide +kernel)
  replace e := ite_f c21 e
  rcases Decidable.em (v7 = 104) with c25 | c25
  · replace e := ite_t c25 e
    refine Go.tsIn (dflt := 206) (lo := 100) (hi := 119) (offs := #[126, 206, 206, 206, 206, 206, 206, 206, 161, 206, 191, 108, 144, 206, 206, 176, 206, 206, 206, 93]) (len := 93) (off := 206) (tgt := 229) 104 (by decide +kernel) (by rw [c25]; decide) (by decide) (by decide) (by decide) (by decide) ?_
    refine Go.run (pc' := 232) [.aload_n 0, .iload_n 2, .iload_n 3] (ls' := [some (.ref a0), some (.ref a1), some (.int v1), some (.int v3), some (.int v5)]) (st' := [.int v3, .int v1, .ref a0]) (by decide +kernel) rfl rfl ?_
    obtain ⟨v26, e27, e⟩ := bd_inv e
    refine Go.callV (M2 := m_A_changeSetting) (a := a0) (as := [.int v1, .int v3]) (rest := []) (v := some (.int v26.1)) (h1 := v26.2) (x_A_changeSetting hf hI k0 e27) wv_C_44 k0 kc_1 (by decide +kernel) rfl rfl ⟨⟨Nat.le_of_ble_eq_true rfl, Nat.le_of_ble_eq_true rfl⟩, ⟨Nat.le_of_ble_eq_true rfl, Nat.le_of_ble_eq_true rfl⟩⟩ (Nat.le_of_ble_eq_true rfl) ?_
    show Go l D ad aC (rmk m_C_obeyCommand) _ m_C_obeyCommand 235 [some (.ref a0), some (.ref a1), some (.int v1), some (.int v3), some (.int v5)] [.int v26.1] v26.2 0 0
    refine Go.run (pc' := 236) [.iconst (-1)] (ls' := [some (.ref a0), some (.ref a1), some (.int v1), some (.int v3), some (.int v5)]) (st' := [.int (-1 : Int32), .int v26.1]) (by decide +kernel) rfl rfl ?_
    refine Go.ic_eq (off := 7) (tgt := 243) (by decide +kernel) (by decide) (fun c28 => ?_) (fun c28 => ?_)
    · replace e := ite_t c28 e
      refine Go.run (pc' := 244) [.iconst 0] (ls' := [some (.ref a0), some (.ref a1), some (.int v1), some (.int v3), some (.int v5)]) (st' := [.int (0 : Int32)]) (by decide +kernel) rfl rfl ?_
      obtain rfl := Option.some.inj e
      exact Go.zret rfl nar_z0 (by decide) (by decide) (by decide +kernel)
    · replace e := ite_f c28 e
      refine Go.run (pc' := 240) [.iconst 1] (ls' := [some (.ref a0), some (.ref a1), some (.int v1), some (.int v3), some (.int v5)]) (st' := [.int (1 : Int32)]) (by decide +kernel) rfl rfl ?_
      refine Go.goto (off := 4) (tgt := 244) (by decide +kernel) (by decide) ?_
      obtain rfl := Option.some.inj e
      exact Go.zret rfl nar_z1 (by decide) (by decide) (by decide +kernel)
  replace e := ite_f c25 e
  rcases Decidable.em (v7 = 105) with c29 | c29
  · replace e := ite_t c29 e
    refine Go.tsIn (dflt := 206) (lo := 100) (hi := 119) (offs := #[126, 206, 206, 206, 206, 206, 206, 206, 161, 206, 191, 108, 144, 206, 206, 176, 206, 206, 206, 93]) (len := 93) (off := 206) (tgt := 229) 105 (by decide +kernel) (by rw [c29]; decide) (by decide) (by decide) (by decide) (by decide) ?_
    refine Go.run (pc' := 232) [.aload_n 0, .iload_n 2, .iload_n 3] (ls' := [some (.ref a0), some (.ref a1), some (.int v1), some (.int v3), some (.int v5)]) (st' := [.int v3, .int v1, .ref a0]) (by decide +kernel) rfl rfl ?_
    obtain ⟨v30, e31, e⟩ := bd_inv e
    refine Go.callV (M2 := m_A_changeSetting) (a := a0) (as := [.int v1, .int v3]) (rest := []) (v := some (.int v30.1)) (h1 := v30.2) (x_A_changeSetting hf hI k0 e31) wv_C_44 k0 kc_1 (by decide +kernel) rfl rfl ⟨⟨Nat.le_of_ble_eq_true rfl, Nat.le_of_ble_eq_true rfl⟩, ⟨Nat.le_of_ble_eq_true rfl, Nat.le_of_ble_eq_true rfl⟩⟩ (Nat.le_of_ble_eq_true rfl) ?_
    show Go l D ad aC (rmk m_C_obeyCommand) _ m_C_obeyCommand 235 [some (.ref a0), some (.ref a1), some (.int v1), some (.int v3), some (.int v5)] [.int v30.1] v30.2 0 0
    refine Go.run (pc' := 236) [.iconst (-1)] (ls' := [some (.ref a0), some (.ref a1), some (.int v1), some (.int v3), some (.int v5)]) (st' := [.int (-1 : Int32), .int v30.1]) (by decide +kernel) rfl rfl ?_
    refine Go.ic_eq (off := 7) (tgt := 243) (by decide +kernel) (by decide) (fun c32 => ?_) (fun c32 => ?_)
    · replace e := ite_t c32 e
      refine Go.run (pc' := 244) [.iconst 0] (ls' := [some (.ref a0), some (.ref a1), some (.int v1), some (.int v3), some (.int v5)]) (st' := [.int (0 : Int32)]) (by decide +kernel) rfl rfl ?_
      obtain rfl := Option.some.inj e
      exact Go.zret rfl nar_z0 (by decide) (by decide) (by decide +kernel)
    · replace e := ite_f c32 e
      refine Go.run (pc' := 240) [.iconst 1] (ls' := [some (.ref a0), some (.ref a1), some (.int v1), some (.int v3), some (.int v5)]) (st' := [.int (1 : Int32)]) (by decide +kernel) rfl rfl ?_
      refine Go.goto (off := 4) (tgt := 244) (by decide +kernel) (by decide) ?_
      obtain rfl := Option.some.inj e
      exact Go.zret rfl nar_z1 (by decide) (by decide) (by decide +kernel)
  replace e := ite_f c29 e
  rcases Decidable.em (v7 = 106) with c33 | c33
  · replace e := ite_t c33 e
    refine Go.tsIn (dflt := 206) (lo := 100) (hi := 119) (offs := #[126, 206, 206, 206, 206, 206, 206, 206, 161, 206, 191, 108, 144, 206, 206, 176, 206, 206, 206, 93]) (len := 93) (off := 206) (tgt := 229) 106 (by decide +kernel) (by rw [c33]; decide) (by decide) (by decide) (by decide) (by decide) ?_
    refine Go.run (pc' := 232) [.aload_n 0, .iload_n 2, .iload_n 3] (ls' := [some (.ref a0), some (.ref a1), some (.int v1), some (.int v3), some (.int v5)]) (st' := [.int v3, .int v1, .ref a0]) (by decide +kernel) rfl rfl ?_
    obtain ⟨v34, e35, e⟩ := bd_inv e
    refine Go.callV (M2 := m_A_changeSetting) (a := a0) (as := [.int v1, .int v3]) (rest := []) (v := some (.int v34.1)) (h1 := v34.2) (x_A_changeSetting hf hI k0 e35) wv_C_44 k0 kc_1 (by decide +kernel) rfl rfl ⟨⟨Nat.le_of_ble_eq_true rfl, Nat.le_of_ble_eq_true rfl⟩, ⟨Nat.le_of_ble_eq_true rfl, Nat.le_of_ble_eq_true rfl⟩⟩ (Nat.le_of_ble_eq_true rfl) ?_
    show Go l D ad aC (rmk m_C_obeyCommand) _ m_C_obeyCommand 235 [some (.ref a0), some (.ref a1), some (.int v1), some (.int v3), some (.int v5)] [.int v34.1] v34.2 0 0
    refine Go.run (pc' := 236) [.iconst (-1)] (ls' := [some (.ref a0), some (.ref a1), some (.int v1), some (.int v3), some (.int v5)]) (st' := [.int (-1 : Int32), .int v34.1]) (by decide +kernel) rfl rfl ?_
    refine Go.ic_eq (off := 7) (tgt := 243) (by decide +kernel) (by decide) (fun c36 => ?_) (fun c36 => ?_)
    · replace e := ite_t c36 e
      refine Go.run (pc' := 244) [.iconst 0] (ls' := [some (.ref a0), some (.ref a1), some (.int v1), some (.int v3), some (.int v5)]) (st' := [.int (0 : Int32)]) (by decide +kernel) rfl rfl ?_
      obtain rfl := Option.some.inj e
      exact Go.zret rfl nar_z0 (by decide) (by decide) (by decide +kernel)
    · replace e := ite_f c36 e
      refine Go.run (pc' := 240) [.iconst 1] (ls' := [some (.ref a0), some (.ref a1), some (.int v1), some (.int v3), some (.int v5)]) (st' := [.int (1 : Int32)]) (by decide +kernel) rfl rfl ?_
      refine Go.goto (off := 4) (tgt := 244) (by decide +kernel) (by decide) ?_
      obtain rfl := Option.some.inj e
      exact Go.zret rfl nar_z1 (by decide) (by decide) (by decide +kernel)
  replace e := ite_f c33 e
  rcases Decidable.em (v7 = 107) with c37 | c37
  · replace e := ite_t c37 e
    refine Go.tsIn (dflt := 206) (lo := 100) (hi := 119) (offs := #[126, 206, 206, 206, 206, 206, 206, 206, 161, 206, 191, 108, 144, 206, 206, 176, 206, 206, 206, 93]) (len := 93) (off := 206) (tgt := 229) 107 (by decide +kernel) (by rw [c37]; decide) (by decide) (by decide) (by decide) (by decide) ?_
    refine Go.run (pc' := 232) [.aload_n 0, .iload_n 2, .iload_n 3] (ls' := [some (.ref a0), some (.ref a1), some (.int v1), some (.int v3), some (.int v5)]) (st' := [.int v3, .int v1, .ref a0]) (by decide +kernel) rfl rfl ?_
    obtain ⟨v38, e39, e⟩ := bd_inv e
    refine Go.callV (M2 := m_A_changeSetting) (a := a0) (as := [.int v1, .int v3]) (rest := []) (v := some (.int v38.1)) (h1 := v38.2) (x_A_changeSetting hf hI k0 e39) wv_C_44 k0 kc_1 (by decide +kernel) rfl rfl ⟨⟨Nat.le_of_ble_eq_true rfl, Nat.le_of_ble_eq_true rfl⟩, ⟨Nat.le_of_ble_eq_true rfl, Nat.le_of_ble_eq_true rfl⟩⟩ (Nat.le_of_ble_eq_true rfl) ?_
    show Go l D ad aC (rmk m_C_obeyCommand) _ m_C_obeyCommand 235 [some (.ref a0), some (.ref a1), some (.int v1), some (.int v3), some (.int v5)] [.int v38.1] v38.2 0 0
    refine Go.run (pc' := 236) [.iconst (-1)] (ls' := [some (.ref a0), some (.ref a1), some (.int v1), some (.int v3), some (.int v5)]) (st' := [.int (-1 : Int32), .int v38.1]) (by decide +kernel) rfl rfl ?_
    refine Go.ic_eq (off := 7) (tgt := 243) (by decide +kernel) (by decide) (fun c40 => ?_) (fun c40 => ?_)
    · replace e := ite_t c40 e
      refine Go.run (pc' := 244) [.iconst 0] (ls' := [some (.ref a0), some (.ref a1), some (.int v1), some (.int v3), some (.int v5)]) (st' := [.int (0 : Int32)]) (by decide +kernel) rfl rfl ?_
      obtain rfl := Option.some.inj e
      exact Go.zret rfl nar_z0 (by decide) (by decide) (by decide +kernel)
    · replace e := ite_f c40 e
      refine Go.run (pc' := 240) [.iconst 1] (ls' := [some (.ref a0), some (.ref a1), some (.int v1), some (.int v3), some (.int v5)]) (st' := [.int (1 : Int32)]) (by decide +kernel) rfl rfl ?_
      refine Go.goto (off := 4) (tgt := 244) (by decide +kernel) (by decide) ?_
      obtain rfl := Option.some.inj e
      exact Go.zret rfl nar_z1 (by decide) (by decide) (by decide +kernel)
  replace e := ite_f c37 e
  rcases Decidable.em (v7 = 108) with c41 | c41
  · replace e := ite_t c41 e
    refine Go.tsIn (dflt := 206) (lo := 100) (hi := 119) (offs := #[126, 206, 206, 206, 206, 206, 206, 206, 161, 206, 191, 108, 144, 206, 206, 176, 206, 206, 206, 93]) (len := 93) (off := 161) (tgt := 184) 108 (by decide +kernel) (by rw [c41]; decide) (by decide) (by decide) (by decide) (by decide) ?_
    refine Go.run (pc' := 186) [.aload_n 0, .iload_n 2] (ls' := [some (.ref a0), some (.ref a1), some (.int v1), some (.int v3), some (.int v5)]) (st' := [.int v1, .ref a0]) (by decide +kernel) rfl rfl ?_
    obtain ⟨v42, e43, e⟩ := bd_inv e
    refine Go.callV (M2 := m_A_sendAway) (a := a0) (as := [.int v1]) (rest := []) (v := some (.int v42.1)) (h1 := v42.2) (x_A_sendAway hf hI k0 e43) wv_C_34 k0 kc_1 (by decide +kernel) rfl rfl ⟨⟨Nat.le_of_ble_eq_true rfl, Nat.le_of_ble_eq_true rfl⟩, ⟨Nat.le_of_ble_eq_true rfl, Nat.le_of_ble_eq_true rfl⟩⟩ (Nat.le_of_ble_eq_true rfl) ?_
    show Go l D ad aC (rmk m_C_obeyCommand) _ m_C_obeyCommand 189 [some (.ref a0), some (.ref a1), some (.int v1), some (.int v3), some (.int v5)] [.int v42.1] v42.2 0 0
    refine Go.run (pc' := 190) [.iconst (-1)] (ls' := [some (.ref a0), some (.ref a1), some (.int v1), some (.int v3), some (.int v5)]) (st' := [.int (-1 : Int32), .int v42.1]) (by decide +kernel) rfl rfl ?_
    refine Go.ic_eq (off := 7) (tgt := 197) (by decide +kernel) (by decide) (fun c44 => ?_) (fun c44 => ?_)
    · replace e := ite_t c44 e
      refine Go.run (pc' := 198) [.iconst 0] (ls' := [some (.ref a0), some (.ref a1), some (.int v1), some (.int v3), some (.int v5)]) (st' := [.int (0 : Int32)]) (by decide +kernel) rfl rfl ?_
      obtain rfl := Option.some.inj e
      exact Go.zret rfl nar_z0 (by decide) (by decide) (by decide +kernel)
    · replace e := ite_f c44 e
      refine Go.run (pc' := 194) [.iconst 1] (ls' := [some (.ref a0), some (.ref a1), some (.int v1), some (.int v3), some (.int v5)]) (st' := [.int (1 : Int32)]) (by decide +kernel) rfl rfl ?_
      refine Go.goto (off := 4) (tgt := 198) (by decide +kernel) (by decide) ?_
      obtain rfl := Option.some.inj e
      exact Go.zret rfl nar_z1 (by decide) (by decide) (by decide +kernel)
  replace e := ite_f c41 e
  rcases Decidable.em (v7 = 109) with c45 | c45
  · replace e := ite_t c45 e
    refine Go.tsIn (dflt := 206) (lo := 100) (hi := 119) (offs := #[126, 206, 206, 206, 206, 206, 206, 206, 161, 206, 191, 108, 144, 206, 206, 176, 206, 206, 206, 93]) (len := 93) (off := 206) (tgt := 229) 109 (by decide +kernel) (by rw [c45]; decide) (by decide) (by decide) (by decide) (by decide) ?_
    refine Go.run (pc' := 232) [.aload_n 0, .iload_n 2, .iload_n 3] (ls' := [some (.ref a0), some (.ref a1), some (.int v1), some (.int v3), some (.int v5)]) (st' := [.int v3, .int v1, .ref a0]) (by decide +kernel) rfl rfl ?_
    obtain ⟨v46, e47, e⟩ := bd_inv e
    refine Go.callV (M2 := m_A_changeSetting) (a := a0) (as := [.int v1, .int v3]) (rest := []) (v := some (.int v46.1)) (h1 := v46.2) (x_A_changeSetting hf hI k0 e47) wv_C_44 k0 kc_1 (by decide +kernel) rfl rfl ⟨⟨Nat.le_of_ble_eq_true rfl, Nat.le_of_ble_eq_true rfl⟩, ⟨Nat.le_of_ble_eq_true rfl, Nat.le_of_ble_eq_true rfl⟩⟩ (Nat.le_of_ble_eq_true rfl) ?_
    show Go l D ad aC (rmk m_C_obeyCommand) _ m_C_obeyCommand 235 [some (.ref a0), some (.ref a1), some (.int v1), some (.int v3), some (.int v5)] [.int v46.1] v46.2 0 0
    refine Go.run (pc' := 236) [.iconst (-1)] (ls' := [some (.ref a0), some (.ref a1), some (.int v1), some (.int v3), some (.int v5)]) (st' := [.int (-1 : Int32), .int v46.1]) (by decide +kernel) rfl rfl ?_
    refine Go.ic_eq (off := 7) (tgt := 243) (by decide +kernel) (by decide) (fun c48 => ?_) (fun c48 => ?_)
    · replace e := ite_t c48 e
      refine Go.run (pc' := 244) [.iconst 0] (ls' := [some (.ref a0), some (.ref a1), some (.int v1), some (.int v3), some (.int v5)]) (st' := [.int (0 : Int32)]) (by decide +kernel) rfl rfl ?_
      obtain rfl := Option.some.inj e
      exact Go.zret rfl nar_z0 (by decide) (by decide) (by decide +kernel)
    · replace e := ite_f c48 e
      refine Go.run (pc' := 240) [.iconst 1] (ls' := [some (.ref a0), some (.ref a1), some (.int v1), some (.int v3), some (.int v5)]) (st' := [.int (1 : Int32)]) (by decide +kernel) rfl rfl ?_
      refine Go.goto (off := 4) (tgt := 244) (by decide +kernel) (by decide) ?_
      obtain rfl := Option.some.inj e
      exact Go.zret rfl nar_z1 (by decide) (by decide) (by decide +kernel)
  replace e := ite_f c45 e
  rcases Decidable.em (v7 = 110) with c49 | c49
  · replace e := ite_t c49 e
    refine Go.tsIn (dflt := 206) (lo := 100) (hi := 119) (offs := #[126, 206, 206, 206, 206, 206, 206, 206, 161, 206, 191, 108, 144, 206, 206, 176, 206, 206, 206, 93]) (len := 93) (off := 191) (tgt := 214) 110 (by decide +kernel) (by rw [c49]; decide) (by decide) (by decide) (by decide) (by decide) ?_
    refine Go.run (pc' := 216) [.aload_n 0, .iload_n 2] (ls' := [some (.ref a0), some (.ref a1), some (.int v1), some (.int v3), some (.int v5)]) (st' := [.int v1, .ref a0]) (by decide +kernel) rfl rfl ?_
    obtain ⟨v50, e51, e⟩ := bd_inv e
    refine Go.callV (M2 := m_A_passDays) (a := a0) (as := [.int v1]) (rest := []) (v := some (.int v50.1)) (h1 := v50.2) (x_A_passDays hf hI k0 e51) wv_C_41 k0 kc_1 (by decide +kernel) rfl rfl ⟨⟨Nat.le_of_ble_eq_true rfl, Nat.le_of_ble_eq_true rfl⟩, ⟨Nat.le_of_ble_eq_true rfl, Nat.le_of_ble_eq_true rfl⟩⟩ (Nat.le_of_ble_eq_true rfl) ?_
    show Go l D ad aC (rmk m_C_obeyCommand) _ m_C_obeyCommand 219 [some (.ref a0), some (.ref a1), some (.int v1), some (.int v3), some (.int v5)] [.int v50.1] v50.2 0 0
    refine Go.run (pc' := 220) [.iconst (-1)] (ls' := [some (.ref a0), some (.ref a1), some (.int v1), some (.int v3), some (.int v5)]) (st' := [.int (-1 : Int32), .int v50.1]) (by decide +kernel) rfl rfl ?_
    refine Go.ic_eq (off := 7) (tgt := 227) (by decide +kernel) (by decide) (fun c52 => ?_) (fun c52 => ?_)
    · replace e := ite_t c52 e
      refine Go.run (pc' := 228) [.iconst 0] (ls' := [some (.ref a0), some (.ref a1), some (.int v1), some (.int v3), some (.int v5)]) (st' := [.int (0 : Int32)]) (by decide +kernel) rfl rfl ?_
      obtain rfl := Option.some.inj e
      exact Go.zret rfl nar_z0 (by decide) (by decide) (by decide +kernel)
    · replace e := ite_f c52 e
      refine Go.run (pc' := 224) [.iconst 1] (ls' := [some (.ref a0), some (.ref a1), some (.int v1), some (.int v3), some (.int v5)]) (st' := [.int (1 : Int32)]) (by decide +kernel) rfl rfl ?_
      refine Go.goto (off := 4) (tgt := 228) (by decide +kernel) (by decide) ?_
      obtain rfl := Option.some.inj e
      exact Go.zret rfl nar_z1 (by decide) (by decide) (by decide +kernel)
  replace e := ite_f c49 e
  rcases Decidable.em (v7 = 111) with c53 | c53
  · replace e := ite_t c53 e
    refine Go.tsIn (dflt := 206) (lo := 100) (hi := 119) (offs := #[126, 206, 206, 206, 206, 206, 206, 206, 161, 206, 191, 108, 144, 206, 206, 176, 206, 206, 206, 93]) (len := 93) (off := 108) (tgt := 131) 111 (by decide +kernel) (by rw [c53]; decide) (by decide) (by decide) (by decide) (by decide) ?_
    refine Go.run (pc' := 136) [.aload_n 0, .iload_n 2, .iload_n 3, .iload 4] (ls' := [some (.ref a0), some (.ref a1), some (.int v1), some (.int v3), some (.int v5)]) (st' := [.int v5, .int v3, .int v1, .ref a0]) (by decide +kernel) rfl rfl ?_
    obtain ⟨v54, e55, e⟩ := bd_inv e
    refine Go.callV (M2 := m_A_putPlugs) (a := a0) (as := [.int v1, .int v3, .int v5]) (rest := []) (v := some (.int v54.1)) (h1 := v54.2) (x_A_putPlugs hf hI k0 e55) wv_C_24 k0 kc_1 (by decide +kernel) rfl rfl ⟨⟨Nat.le_of_ble_eq_true rfl, Nat.le_of_ble_eq_true rfl⟩, ⟨Nat.le_of_ble_eq_true rfl, Nat.le_of_ble_eq_true rfl⟩⟩ (Nat.le_of_ble_eq_true rfl) ?_
    show Go l D ad aC (rmk m_C_obeyCommand) _ m_C_obeyCommand 139 [some (.ref a0), some (.ref a1), some (.int v1), some (.int v3), some (.int v5)] [.int v54.1] v54.2 0 0
    refine Go.run (pc' := 140) [.iconst (-1)] (ls' := [some (.ref a0), some (.ref a1), some (.int v1), some (.int v3), some (.int v5)]) (st' := [.int (-1 : Int32), .int v54.1]) (by decide +kernel) rfl rfl ?_
    refine Go.ic_eq (off := 7) (tgt := 147) (by decide +kernel) (by decide) (fun c56 => ?_) (fun c56 => ?_)
    · replace e := ite_t c56 e
      refine Go.run (pc' := 148) [.iconst 0] (ls' := [some (.ref a0), some (.ref a1), some (.int v1), some (.int v3), some (.int v5)]) (st' := [.int (0 : Int32)]) (by decide +kernel) rfl rfl ?_
      obtain rfl := Option.some.inj e
      exact Go.zret rfl nar_z0 (by decide) (by decide) (by decide +kernel)
    · replace e := ite_f c56 e
      refine Go.run (pc' := 144) [.iconst 1] (ls' := [some (.ref a0), some (.ref a1), some (.int v1), some (.int v3), some (.int v5)]) (st' := [.int (1 : Int32)]) (by decide +kernel) rfl rfl ?_
      refine Go.goto (off := 4) (tgt := 148) (by decide +kernel) (by decide) ?_
      obtain rfl := Option.some.inj e
      exact Go.zret rfl nar_z1 (by decide) (by decide) (by decide +kernel)
  replace e := ite_f c53 e
  rcases Decidable.em (v7 = 112) with c57 | c57
  · replace e := ite_t c57 e
    refine Go.tsIn (dflt := 206) (lo := 100) (hi := 119) (offs := #[126, 206, 206, 206, 206, 206, 206, 206, 161, 206, 191, 108, 144, 206, 206, 176, 206, 206, 206, 93]) (len := 93) (off := 144) (tgt := 167) 112 (by decide +kernel) (by rw [c57]; decide) (by decide) (by decide) (by decide) (by decide) ?_
    refine Go.run (pc' := 172) [.aload_n 0, .iload_n 2, .iload_n 3, .iload 4] (ls' := [some (.ref a0), some (.ref a1), some (.int v1), some (.int v3), some (.int v5)]) (st' := [.int v5, .int v3, .int v1, .ref a0]) (by decide +kernel) rfl rfl ?_
    obtain ⟨v58, e59, e⟩ := bd_inv e
    refine Go.callV (M2 := m_A_letStand) (a := a0) (as := [.int v1, .int v3, .int v5]) (rest := []) (v := some (.int v58.1)) (h1 := v58.2) (x_A_letStand hf hI k0 e59) wv_C_31 k0 kc_1 (by decide +kernel) rfl rfl ⟨⟨Nat.le_of_ble_eq_true rfl, Nat.le_of_ble_eq_true rfl⟩, ⟨Nat.le_of_ble_eq_true rfl, Nat.le_of_ble_eq_true rfl⟩⟩ (Nat.le_of_ble_eq_true rfl) ?_
    show Go l D ad aC (rmk m_C_obeyCommand) _ m_C_obeyCommand 175 [some (.ref a0), some (.ref a1), some (.int v1), some (.int v3), some (.int v5)] [.int v58.1] v58.2 0 0
    refine Go.if_ne (off := 7) (tgt := 182) (by decide +kernel) (by decide) (fun c60 => ?_) (fun c60 => ?_)
    · replace e := ite_f c60 e
      refine Go.run (pc' := 183) [.iconst 0] (ls' := [some (.ref a0), some (.ref a1), some (.int v1), some (.int v3), some (.int v5)]) (st' := [.int (0 : Int32)]) (by decide +kernel) rfl rfl ?_
      obtain rfl := Option.some.inj e
      exact Go.zret rfl nar_z0 (by decide) (by decide) (by decide +kernel)
    · replace e := ite_t c60 e
      refine Go.run (pc' := 179) [.iconst 1] (ls' := [some (.ref a0), some (.ref a1), some (.int v1), some (.int v3), some (.int v5)]) (st' := [.int (1 : Int32)]) (by decide +kernel) rfl rfl ?_
      refine Go.goto (off := 4) (tgt := 183) (by decide +kernel) (by decide) ?_
      obtain rfl := Option.some.inj e
      exact Go.zret rfl nar_z1 (by decide) (by decide) (by decide +kernel)
  replace e := ite_f c57 e
  rcases Decidable.em (v7 = 113) with c61 | c61
  · replace e := ite_t c61 e
    refine Go.tsIn (dflt := 206) (lo := 100) (hi := 119) (offs := #[126, 206, 206, 206, 206, 206, 206, 206, 161, 206, 191, 108, 144, 206, 206, 176, 206, 206, 206, 93]) (len := 93) (off := 206) (tgt := 229) 113 (by decide +kernel) (by rw [c61]; decide) (by decide) (by decide) (by decide) (by decide) ?_
    refine Go.run (pc' := 232) [.aload_n 0, .iload_n 2, .iload_n 3] (ls' := [some (.ref a0), some (.ref a1), some (.int v1), some (.int v3), some (.int v5)]) (st' := [.int v3, .int v1, .ref a0]) (by decide +kernel) rfl rfl ?_
    obtain ⟨v62, e63, e⟩ := bd_inv e
    refine Go.callV (M2 := m_A_changeSetting) (a := a0) (as := [.int v1, .int v3]) (rest := []) (v := some (.int v62.1)) (h1 := v62.2) (x_A_changeSetting hf hI k0 e63) wv_C_44 k0 kc_1 (by decide +kernel) rfl rfl ⟨⟨Nat.le_of_ble_eq_true rfl, Nat.le_of_ble_eq_true rfl⟩, ⟨Nat.le_of_ble_eq_true rfl, Nat.le_of_ble_eq_true rfl⟩⟩ (Nat.le_of_ble_eq_true rfl) ?_
    show Go l D ad aC (rmk m_C_obeyCommand) _ m_C_obeyCommand 235 [some (.ref a0), some (.ref a1), some (.int v1), some (.int v3), some (.int v5)] [.int v62.1] v62.2 0 0
    refine Go.run (pc' := 236) [.iconst (-1)] (ls' := [some (.ref a0), some (.ref a1), some (.int v1), some (.int v3), some (.int v5)]) (st' := [.int (-1 : Int32), .int v62.1]) (by decide +kernel) rfl rfl ?_
    refine Go.ic_eq (off := 7) (tgt := 243) (by decide +kernel) (by decide) (fun c64 => ?_) (fun c64 => ?_)
    · replace e := ite_t c64 e
      refine Go.run (pc' := 244) [.iconst 0] (ls' := [some (.ref a0), some (.ref a1), some (.int v1), some (.int v3), some (.int v5)]) (st' := [.int (0 : Int32)]) (by decide +kernel) rfl rfl ?_
      obtain rfl := Option.some.inj e
      exact Go.zret rfl nar_z0 (by decide) (by decide) (by decide +kernel)
    · replace e := ite_f c64 e
      refine Go.run (pc' := 240) [.iconst 1] (ls' := [some (.ref a0), some (.ref a1), some (.int v1), some (.int v3), some (.int v5)]) (st' := [.int (1 : Int32)]) (by decide +kernel) rfl rfl ?_
      refine Go.goto (off := 4) (tgt := 244) (by decide +kernel) (by decide) ?_
      obtain rfl := Option.some.inj e
      exact Go.zret rfl nar_z1 (by decide) (by decide) (by decide +kernel)
  replace e := ite_f c61 e
  rcases Decidable.em (v7 = 114) with c65 | c65
  · replace e := ite_t c65 e
    refine Go.tsIn (dflt := 206) (lo := 100) (hi := 119) (offs := #[126, 206, 206, 206, 206, 206, 206, 206, 161, 206, 191, 108, 144, 206, 206, 176, 206, 206, 206, 93]) (len := 93) (off := 206) (tgt := 229) 114 (by decide +kernel) (by rw [c65]; decide) (by decide) (by decide) (by decide) (by decide) ?_
    refine Go.run (pc' := 232) [.aload_n 0, .iload_n 2, .iload_n 3] (ls' := [some (.ref a0), some (.ref a1), some (.int v1), some (.int v3), some (.int v5)]) (st' := [.int v3, .int v1, .ref a0]) (by decide +kernel) rfl rfl ?_
    obtain ⟨v66, e67, e⟩ := bd_inv e
    refine Go.callV (M2 := m_A_changeSetting) (a := a0) (as := [.int v1, .int v3]) (rest := []) (v := some (.int v66.1)) (h1 := v66.2) (x_A_changeSetting hf hI k0 e67) wv_C_44 k0 kc_1 (by decide +kernel) rfl rfl ⟨⟨Nat.le_of_ble_eq_true rfl, Nat.le_of_ble_eq_true rfl⟩, ⟨Nat.le_of_ble_eq_true rfl, Nat.le_of_ble_eq_true rfl⟩⟩ (Nat.le_of_ble_eq_true rfl) ?_
    show Go l D ad aC (rmk m_C_obeyCommand) _ m_C_obeyCommand 235 [some (.ref a0), some (.ref a1), some (.int v1), some (.int v3), some (.int v5)] [.int v66.1] v66.2 0 0
    refine Go.run (pc' := 236) [.iconst (-1)] (ls' := [some (.ref a0), some (.ref a1), some (.int v1), some (.int v3), some (.int v5)]) (st' := [.int (-1 : Int32), .int v66.1]) (by decide +kernel) rfl rfl ?_
    refine Go.ic_eq (off := 7) (tgt := 243) (by decide +kernel) (by decide) (fun c68 => ?_) (fun c68 => ?_)
    · replace e := ite_t c68 e
      refine Go.run (pc' := 244) [.iconst 0] (ls' := [some (.ref a0), some (.ref a1), some (.int v1), some (.int v3), some (.int v5)]) (st' := [.int (0 : Int32)]) (by decide +kernel) rfl rfl ?_
      obtain rfl := Option.some.inj e
      exact Go.zret rfl nar_z0 (by decide) (by decide) (by decide +kernel)
    · replace e := ite_f c68 e
      refine Go.run (pc' := 240) [.iconst 1] (ls' := [some (.ref a0), some (.ref a1), some (.int v1), some (.int v3), some (.int v5)]) (st' := [.int (1 : Int32)]) (by decide +kernel) rfl rfl ?_
      refine Go.goto (off := 4) (tgt := 244) (by decide +kernel) (by decide) ?_
      obtain rfl := Option.some.inj e
      exact Go.zret rfl nar_z1 (by decide) (by decide) (by decide +kernel)
  replace e := ite_f c65 e
  rcases Decidable.em (v7 = 115) with c69 | c69
  · replace e := ite_t c69 e
    refine Go.tsIn (dflt := 206) (lo := 100) (hi := 119) (offs := #[126, 206, 206, 206, 206, 206, 206, 206, 161, 206, 191, 108, 144, 206, 206, 176, 206, 206, 206, 93]) (len := 93) (off := 176) (tgt := 199) 115 (by decide +kernel) (by rw [c69]; decide) (by decide) (by decide) (by decide) (by decide) ?_
    refine Go.run (pc' := 202) [.aload_n 0, .iload_n 2, .iload_n 3] (ls' := [some (.ref a0), some (.ref a1), some (.int v1), some (.int v3), some (.int v5)]) (st' := [.int v3, .int v1, .ref a0]) (by decide +kernel) rfl rfl ?_
    obtain ⟨v70, e71, e⟩ := bd_inv e
    refine Go.callV (M2 := m_A_exchange) (a := a0) (as := [.int v1, .int v3]) (rest := []) (v := some (.int v70.1)) (h1 := v70.2) (x_A_exchange hf hI k0 e71) wv_C_37 k0 kc_1 (by decide +kernel) rfl rfl ⟨⟨Nat.le_of_ble_eq_true rfl, Nat.le_of_ble_eq_true rfl⟩, ⟨Nat.le_of_ble_eq_true rfl, Nat.le_of_ble_eq_true rfl⟩⟩ (Nat.le_of_ble_eq_true rfl) ?_
    show Go l D ad aC (rmk m_C_obeyCommand) _ m_C_obeyCommand 205 [some (.ref a0), some (.ref a1), some (.int v1), some (.int v3), some (.int v5)] [.int v70.1] v70.2 0 0
    refine Go.if_ne (off := 7) (tgt := 212) (by decide +kernel) (by decide) (fun c72 => ?_) (fun c72 => ?_)
    · replace e := ite_f c72 e
      refine Go.run (pc' := 213) [.iconst 0] (ls' := [some (.ref a0), some (.ref a1), some (.int v1), some (.int v3), some (.int v5)]) (st' := [.int (0 : Int32)]) (by decide +kernel) rfl rfl ?_
      obtain rfl := Option.some.inj e
      exact Go.zret rfl nar_z0 (by decide) (by decide) (by decide +kernel)
    · replace e := ite_t c72 e
      refine Go.run (pc' := 209) [.iconst 1] (ls' := [some (.ref a0), some (.ref a1), some (.int v1), some (.int v3), some (.int v5)]) (st' := [.int (1 : Int32)]) (by decide +kernel) rfl rfl ?_
      refine Go.goto (off := 4) (tgt := 213) (by decide +kernel) (by decide) ?_
      obtain rfl := Option.some.inj e
      exact Go.zret rfl nar_z1 (by decide) (by decide) (by decide +kernel)
  replace e := ite_f c69 e
  rcases Decidable.em (v7 = 116) with c73 | c73
  · replace e := ite_t c73 e
    refine Go.tsIn (dflt := 206) (lo := 100) (hi := 119) (offs := #[126, 206, 206, 206, 206, 206, 206, 206, 161, 206, 191, 108, 144, 206, 206, 176, 206, 206, 206, 93]) (len := 93) (off := 206) (tgt := 229) 116 (by decide +kernel) (by rw [c73]; decide) (by decide) (by decide) (by decide) (by decide) ?_
    refine Go.run (pc' := 232) [.aload_n 0, .iload_n 2, .iload_n 3] (ls' := [some (.ref a0), some (.ref a1), some (.int v1), some (.int v3), some (.int v5)]) (st' := [.int v3, .int v1, .ref a0]) (by decide +kernel) rfl rfl ?_
    obtain ⟨v74, e75, e⟩ := bd_inv e
    refine Go.callV (M2 := m_A_changeSetting) (a := a0) (as := [.int v1, .int v3]) (rest := []) (v := some (.int v74.1)) (h1 := v74.2) (x_A_changeSetting hf hI k0 e75) wv_C_44 k0 kc_1 (by decide +kernel) rfl rfl ⟨⟨Nat.le_of_ble_eq_true rfl, Nat.le_of_ble_eq_true rfl⟩, ⟨Nat.le_of_ble_eq_true rfl, Nat.le_of_ble_eq_true rfl⟩⟩ (Nat.le_of_ble_eq_true rfl) ?_
    show Go l D ad aC (rmk m_C_obeyCommand) _ m_C_obeyCommand 235 [some (.ref a0), some (.ref a1), some (.int v1), some (.int v3), some (.int v5)] [.int v74.1] v74.2 0 0
    refine Go.run (pc' := 236) [.iconst (-1)] (ls' := [some (.ref a0), some (.ref a1), some (.int v1), some (.int v3), some (.int v5)]) (st' := [.int (-1 : Int32), .int v74.1]) (by decide +kernel) rfl rfl ?_
    refine Go.ic_eq (off := 7) (tgt := 243) (by decide +kernel) (by decide) (fun c76 => ?_) (fun c76 => ?_)
    · replace e := ite_t c76 e
      refine Go.run (pc' := 244) [.iconst 0] (ls' := [some (.ref a0), some (.ref a1), some (.int v1), some (.int v3), some (.int v5)]) (st' := [.int (0 : Int32)]) (by decide +kernel) rfl rfl ?_
      obtain rfl := Option.some.inj e
      exact Go.zret rfl nar_z0 (by decide) (by decide) (by decide +kernel)
    · replace e := ite_f c76 e
      refine Go.run (pc' := 240) [.iconst 1] (ls' := [some (.ref a0), some (.ref a1), some (.int v1), some (.int v3), some (.int v5)]) (st' := [.int (1 : Int32)]) (by decide +kernel) rfl rfl ?_
      refine Go.goto (off := 4) (tgt := 244) (by decide +kernel) (by decide) ?_
      obtain rfl := Option.some.inj e
      exact Go.zret rfl nar_z1 (by decide) (by decide) (by decide +kernel)
  replace e := ite_f c73 e
  rcases Decidable.em (v7 = 117) with c77 | c77
  · replace e := ite_t c77 e
    refine Go.tsIn (dflt := 206) (lo := 100) (hi := 119) (offs := #[126, 206, 206, 206, 206, 206, 206, 206, 161, 206, 191, 108, 144, 206, 206, 176, 206, 206, 206, 93]) (len := 93) (off := 206) (tgt := 229) 117 (by decide +kernel) (by rw [c77]; decide) (by decide) (by decide) (by decide) (by decide) ?_
    refine Go.run (pc' := 232) [.aload_n 0, .iload_n 2, .iload_n 3] (ls' := [some (.ref a0), some (.ref a1), some (.int v1), some (.int v3), some (.int v5)]) (st' := [.int v3, .int v1, .ref a0]) (by decide +kernel) rfl rfl ?_
    obtain ⟨v78, e79, e⟩ := bd_inv e
    refine Go.callV (M2 := m_A_changeSetting) (a := a0) (as := [.int v1, .int v3]) (rest := []) (v := some (.int v78.1)) (h1 := v78.2) (x_A_changeSetting hf hI k0 e79) wv_C_44 k0 kc_1 (by decide +kernel) rfl rfl ⟨⟨Nat.le_of_ble_eq_true rfl, Nat.le_of_ble_eq_true rfl⟩, ⟨Nat.le_of_ble_eq_true rfl, Nat.le_of_ble_eq_true rfl⟩⟩ (Nat.le_of_ble_eq_true rfl) ?_
    show Go l D ad aC (rmk m_C_obeyCommand) _ m_C_obeyCommand 235 [some (.ref a0), some (.ref a1), some (.int v1), some (.int v3), some (.int v5)] [.int v78.1] v78.2 0 0
    refine Go.run (pc' := 236) [.iconst (-1)] (ls' := [some (.ref a0), some (.ref a1), some (.int v1), some (.int v3), some (.int v5)]) (st' := [.int (-1 : Int32), .int v78.1]) (by decide +kernel) rfl rfl ?_
    refine Go.ic_eq (off := 7) (tgt := 243) (by decide +kernel) (by decide) (fun c80 => ?_) (fun c80 => ?_)
    · replace e := ite_t c80 e
      refine Go.run (pc' := 244) [.iconst 0] (ls' := [some (.ref a0), some (.ref a1), some (.int v1), some (.int v3), some (.int v5)]) (st' := [.int (0 : Int32)]) (by decide +kernel) rfl rfl ?_
      obtain rfl := Option.some.inj e
      exact Go.zret rfl nar_z0 (by decide) (by decide) (by decide +kernel)
    · replace e := ite_f c80 e
      refine Go.run (pc' := 240) [.iconst 1] (ls' := [some (.ref a0), some (.ref a1), some (.int v1), some (.int v3), some (.int v5)]) (st' := [.int (1 : Int32)]) (by decide +kernel) rfl rfl ?_
      refine Go.goto (off := 4) (tgt := 244) (by decide +kernel) (by decide) ?_
      obtain rfl := Option.some.inj e
      exact Go.zret rfl nar_z1 (by decide) (by decide) (by decide +kernel)
  replace e := ite_f c77 e
  rcases Decidable.em (v7 = 118) with c81 | c81
  · replace e := ite_t c81 e
    refine Go.tsIn (dflt := 206) (lo := 100) (hi := 119) (offs := #[126, 206, 206, 206, 206, 206, 206, 206, 161, 206, 191, 108, 144, 206, 206, 176, 206, 206, 206, 93]) (len := 93) (off := 206) (tgt := 229) 118 (by decide +kernel) (by rw [c81]; decide) (by decide) (by decide) (by decide) (by decide) ?_
    refine Go.run (pc' := 232) [.aload_n 0, .iload_n 2, .iload_n 3] (ls' := [some (.ref a0), some (.ref a1), some (.int v1), some (.int v3), some (.int v5)]) (st' := [.int v3, .int v1, .ref a0]) (by decide +kernel) rfl rfl ?_
    obtain ⟨v82, e83, e⟩ := bd_inv e
    refine Go.callV (M2 := m_A_changeSetting) (a := a0) (as := [.int v1, .int v3]) (rest := []) (v := some (.int v82.1)) (h1 := v82.2) (x_A_changeSetting hf hI k0 e83) wv_C_44 k0 kc_1 (by decide +kernel) rfl rfl ⟨⟨Nat.le_of_ble_eq_true rfl, Nat.le_of_ble_eq_true rfl⟩, ⟨Nat.le_of_ble_eq_true rfl, Nat.le_of_ble_eq_true rfl⟩⟩ (Nat.le_of_ble_eq_true rfl) ?_
    show Go l D ad aC (rmk m_C_obeyCommand) _ m_C_obeyCommand 235 [some (.ref a0), some (.ref a1), some (.int v1), some (.int v3), some (.int v5)] [.int v82.1] v82.2 0 0
    refine Go.run (pc' := 236) [.iconst (-1)] (ls' := [some (.ref a0), some (.ref a1), some (.int v1), some (.int v3), some (.int v5)]) (st' := [.int (-1 : Int32), .int v82.1]) (by decide +kernel) rfl rfl ?_
    refine Go.ic_eq (off := 7) (tgt := 243) (by decide +kernel) (by decide) (fun c84 => ?_) (fun c84 => ?_)
    · replace e := ite_t c84 e
      refine Go.run (pc' := 244) [.iconst 0] (ls' := [some (.ref a0), some (.ref a1), some (.int v1), some (.int v3), some (.int v5)]) (st' := [.int (0 : Int32)]) (by decide +kernel) rfl rfl ?_
      obtain rfl := Option.some.inj e
      exact Go.zret rfl nar_z0 (by decide) (by decide) (by decide +kernel)
    · replace e := ite_f c84 e
      refine Go.run (pc' := 240) [.iconst 1] (ls' := [some (.ref a0), some (.ref a1), some (.int v1), some (.int v3), some (.int v5)]) (st' := [.int (1 : Int32)]) (by decide +kernel) rfl rfl ?_
      refine Go.goto (off := 4) (tgt := 244) (by decide +kernel) (by decide) ?_
      obtain rfl := Option.some.inj e
      exact Go.zret rfl nar_z1 (by decide) (by decide) (by decide +kernel)
  replace e := ite_f c81 e
  rcases Decidable.em (v7 = 119) with c85 | c85
  · replace e := ite_t c85 e
    refine Go.tsIn (dflt := 206) (lo := 100) (hi := 119) (offs := #[126, 206, 206, 206, 206, 206, 206, 206, 161, 206, 191, 108, 144, 206, 206, 176, 206, 206, 206, 93]) (len := 93) (off := 93) (tgt := 116) 119 (by decide +kernel) (by rw [c85]; decide) (by decide) (by decide) (by decide) (by decide) ?_
    refine Go.run (pc' := 118) [.aload_n 0, .iload_n 2] (ls' := [some (.ref a0), some (.ref a1), some (.int v1), some (.int v3), some (.int v5)]) (st' := [.int v1, .ref a0]) (by decide +kernel) rfl rfl ?_
    obtain ⟨v86, e87, e⟩ := bd_inv e
    refine Go.callV (M2 := m_A_openWall) (a := a0) (as := [.int v1]) (rest := []) (v := some (.int v86.1)) (h1 := v86.2) (x_A_openWall hf hI k0 e87) wv_C_19 k0 kc_1 (by decide +kernel) rfl rfl ⟨⟨Nat.le_of_ble_eq_true rfl, Nat.le_of_ble_eq_true rfl⟩, ⟨Nat.le_of_ble_eq_true rfl, Nat.le_of_ble_eq_true rfl⟩⟩ (Nat.le_of_ble_eq_true rfl) ?_
    show Go l D ad aC (rmk m_C_obeyCommand) _ m_C_obeyCommand 121 [some (.ref a0), some (.ref a1), some (.int v1), some (.int v3), some (.int v5)] [.int v86.1] v86.2 0 0
    refine Go.run (pc' := 122) [.iconst (-1)] (ls' := [some (.ref a0), some (.ref a1), some (.int v1), some (.int v3), some (.int v5)]) (st' := [.int (-1 : Int32), .int v86.1]) (by decide +kernel) rfl rfl ?_
    refine Go.ic_eq (off := 7) (tgt := 129) (by decide +kernel) (by decide) (fun c88 => ?_) (fun c88 => ?_)
    · replace e := ite_t c88 e
      refine Go.run (pc' := 130) [.iconst 0] (ls' := [some (.ref a0), some (.ref a1), some (.int v1), some (.int v3), some (.int v5)]) (st' := [.int (0 : Int32)]) (by decide +kernel) rfl rfl ?_
      obtain rfl := Option.some.inj e
      exact Go.zret rfl nar_z0 (by decide) (by decide) (by decide +kernel)
    · replace e := ite_f c88 e
      refine Go.run (pc' := 126) [.iconst 1] (ls' := [some (.ref a0), some (.ref a1), some (.int v1), some (.int v3), some (.int v5)]) (st' := [.int (1 : Int32)]) (by decide +kernel) rfl rfl ?_
      refine Go.goto (off := 4) (tgt := 130) (by decide +kernel) (by decide) ?_
      obtain rfl := Option.some.inj e
      exact Go.zret rfl nar_z1 (by decide) (by decide) (by decide +kernel)
  replace e := ite_f c85 e
  refine Go.tsOut (dflt := 206) (lo := 100) (hi := 119) (offs := #[126, 206, 206, 206, 206, 206, 206, 206, 161, 206, 191, 108, 144, 206, 206, 176, 206, 206, 206, 93]) (len := 93) (tgt := 229) (by decide +kernel) (by have zc9 := lv_neT c9 (a := 100) rfl; have zc13 := lv_neT c13 (a := 101) rfl; have zc17 := lv_neT c17 (a := 102) rfl; have zc21 := lv_neT c21 (a := 103) rfl; have zc25 := lv_neT c25 (a := 104) rfl; have zc29 := lv_neT c29 (a := 105) rfl; have zc33 := lv_neT c33 (a := 106) rfl; have zc37 := lv_neT c37 (a := 107) rfl; have zc41 := lv_neT c41 (a := 108) rfl; have zc45 := lv_neT c45 (a := 109) rfl; have zc49 := lv_neT c49 (a := 110) rfl; have zc53 := lv_neT c53 (a := 111) rfl; have zc57 := lv_neT c57 (a := 112) rfl; have zc61 := lv_neT c61 (a := 113) rfl; have zc65 := lv_neT c65 (a := 114) rfl; have zc69 := lv_neT c69 (a := 115) rfl; have zc73 := lv_neT c73 (a := 116) rfl; have zc77 := lv_neT c77 (a := 117) rfl; have zc81 := lv_neT c81 (a := 118) rfl; have zc85 := lv_neT c85 (a := 119) rfl; omega) (by decide) ?_
  refine Go.run (pc' := 232) [.aload_n 0, .iload_n 2, .iload_n 3] (ls' := [some (.ref a0), some (.ref a1), some (.int v1), some (.int v3), some (.int v5)]) (st' := [.int v3, .int v1, .ref a0]) (by decide +kernel) rfl rfl ?_
  obtain ⟨v89, e90, e⟩ := bd_inv e
  refine Go.callV (M2 := m_A_changeSetting) (a := a0) (as := [.int v1, .int v3]) (rest := []) (v := some (.int v89.1)) (h1 := v89.2) (x_A_changeSetting hf hI k0 e90) wv_C_44 k0 kc_1 (by decide +kernel) rfl rfl ⟨⟨Nat.le_of_ble_eq_true rfl, Nat.le_of_ble_eq_true rfl⟩, ⟨Nat.le_of_ble_eq_true rfl, Nat.le_of_ble_eq_true rfl⟩⟩ (Nat.le_of_ble_eq_true rfl) ?_
  show Go l D ad aC (rmk m_C_obeyCommand) _ m_C_obeyCommand 235 [some (.ref a0), some (.ref a1), some (.int v1), some (.int v3), some (.int v5)] [.int v89.1] v89.2 0 0
  refine Go.run (pc' := 236) [.iconst (-1)] (ls' := [some (.ref a0), some (.ref a1), some (.int v1), some (.int v3), some (.int v5)]) (st' := [.int (-1 : Int32), .int v89.1]) (by decide +kernel) rfl rfl ?_
  refine Go.ic_eq (off := 7) (tgt := 243) (by decide +kernel) (by decide) (fun c91 => ?_) (fun c91 => ?_)
  · replace e := ite_t c91 e
    refine Go.run (pc' := 244) [.iconst 0] (ls' := [some (.ref a0), some (.ref a1), some (.int v1), some (.int v3), some (.int v5)]) (st' := [.int (0 : Int32)]) (by decide +kernel) rfl rfl ?_
    obtain rfl := Option.some.inj e
    exact Go.zret rfl nar_z0 (by decide) (by decide) (by decide +kernel)
  · replace e := ite_f c91 e
    refine Go.run (pc' := 240) [.iconst 1] (ls' := [some (.ref a0), some (.ref a1), some (.int v1), some (.int v3), some (.int v5)]) (st' := [.int (1 : Int32)]) (by decide +kernel) rfl rfl ?_
    refine Go.goto (off := 4) (tgt := 244) (by decide +kernel) (by decide) ?_
    obtain rfl := Option.some.inj e
    exact Go.zret rfl nar_z1 (by decide) (by decide) (by decide +kernel)
def f_C_obeyGroup (h : HP) (a0 : Nat) (x1 : Int32) : Option (Int32 × HP) :=
  if (x1 / (10000 : Int32)) = 1 then
    (f_A_letStand h a0 ((x1 / (1000 : Int32)) - (x1 / (1000 : Int32)) / (10 : Int32) * (10 : Int32)) ((x1 / (100 : Int32)) - (x1 / (100 : Int32)) / (10 : Int32) * (10 : Int32)) (x1 - x1 / (100 : Int32) * (100 : Int32))).bind fun v2 =>
    if v2.1 = 0 then
      some ((1 : Int32), v2.2)
    else
      some ((0 : Int32), v2.2)
  else
    if (x1 / (10000 : Int32)) = 2 then
      if (x1 - x1 / (100 : Int32) * (100 : Int32)) = 0 then
        (f_A_exchange h a0 ((x1 / (1000 : Int32)) - (x1 / (1000 : Int32)) / (10 : Int32) * (10 : Int32)) ((x1 / (100 : Int32)) - (x1 / (100 : Int32)) / (10 : Int32) * (10 : Int32))).bind fun v7 =>
        if v7.1 = 0 then
          some ((1 : Int32), v7.2)
        else
          some ((0 : Int32), v7.2)
      else
        some ((0 : Int32), h)
    else
      if (x1 / (10000 : Int32)) = 3 then
        if ((x1 / (100 : Int32)) - (x1 / (100 : Int32)) / (10 : Int32) * (10 : Int32)) = 0 then
          if (x1 - x1 / (100 : Int32) * (100 : Int32)) = 0 then
            (f_A_sendAway h a0 ((x1 / (1000 : Int32)) - (x1 / (1000 : Int32)) / (10 : Int32) * (10 : Int32))).bind fun v13 =>
            if v13.1 = (-1 : Int32) then
              some ((0 : Int32), v13.2)
            else
              some ((1 : Int32), v13.2)
          else
            some ((0 : Int32), h)
        else
          some ((0 : Int32), h)
      else
        if (x1 / (10000 : Int32)) = 4 then
          if ((x1 / (1000 : Int32)) - (x1 / (1000 : Int32)) / (10 : Int32) * (10 : Int32)) = 0 then
            if ((x1 / (100 : Int32)) - (x1 / (100 : Int32)) / (10 : Int32) * (10 : Int32)) = 0 then
              (f_A_passDays h a0 (x1 - x1 / (100 : Int32) * (100 : Int32))).bind fun v19 =>
              if v19.1 = (-1 : Int32) then
                some ((0 : Int32), v19.2)
              else
                some ((1 : Int32), v19.2)
            else
              some ((0 : Int32), h)
          else
            some ((0 : Int32), h)
        else
          if (x1 / (10000 : Int32)) = 5 then
            if ((x1 / (100 : Int32)) - (x1 / (100 : Int32)) / (10 : Int32) * (10 : Int32)) = 0 then
              (f_A_changeSetting h a0 ((x1 / (1000 : Int32)) - (x1 / (1000 : Int32)) / (10 : Int32) * (10 : Int32)) (x1 - x1 / (100 : Int32) * (100 : Int32))).bind fun v24 =>
              if v24.1 = (-1 : Int32) then
                some ((0 : Int32), v24.2)
              else
                some ((1 : Int32), v24.2)
            else
              some ((0 : Int32), h)
          else
            if (x1 / (10000 : Int32)) = 6 then
              (f_A_putPlugs h a0 ((x1 / (1000 : Int32)) - (x1 / (1000 : Int32)) / (10 : Int32) * (10 : Int32)) (((10 : Int32) * ((x1 / (100 : Int32)) - (x1 / (100 : Int32)) / (10 : Int32) * (10 : Int32))) + ((x1 / (10 : Int32)) - (x1 / (10 : Int32)) / (10 : Int32) * (10 : Int32))) (x1 - x1 / (10 : Int32) * (10 : Int32))).bind fun v28 =>
              if v28.1 = (-1 : Int32) then
                some ((0 : Int32), v28.2)
              else
                some ((1 : Int32), v28.2)
            else
              if (x1 / (10000 : Int32)) = 7 then
                if ((x1 / (100 : Int32)) - (x1 / (100 : Int32)) / (10 : Int32) * (10 : Int32)) = 0 then
                  (f_S_hasDealer h (fld a0 0) ((x1 / (1000 : Int32)) - (x1 / (1000 : Int32)) / (10 : Int32) * (10 : Int32))).bind fun v33 =>
                  if v33 = 0 then
                    some ((0 : Int32), h)
                  else
                    (f_A_rentOf h a0 ((x1 / (1000 : Int32)) - (x1 / (1000 : Int32)) / (10 : Int32) * (10 : Int32))).bind fun v36 =>
                    if (x1 - x1 / (100 : Int32) * (100 : Int32)) < v36 then
                      some ((0 : Int32), h)
                    else
                      some ((1 : Int32), h)
                else
                  some ((0 : Int32), h)
              else
                if (x1 / (10000 : Int32)) = 8 then
                  if ((x1 / (100 : Int32)) - (x1 / (100 : Int32)) / (10 : Int32) * (10 : Int32)) = 0 then
                    if ((x1 / (10 : Int32)) - (x1 / (10 : Int32)) / (10 : Int32) * (10 : Int32)) = 0 then
                      (f_S_hasDealer h (fld a0 0) ((x1 / (1000 : Int32)) - (x1 / (1000 : Int32)) / (10 : Int32) * (10 : Int32))).bind fun v42 =>
                      if v42 = 0 then
                        some ((0 : Int32), h)
                      else
                        (f_W_plugsHad h (fld a0 1) ((x1 / (1000 : Int32)) - (x1 / (1000 : Int32)) / (10 : Int32) * (10 : Int32))).bind fun v45 =>
                        if v45 < (x1 - x1 / (10 : Int32) * (10 : Int32)) then
                          some ((0 : Int32), h)
                        else
                          some ((1 : Int32), h)
                    else
                      some ((0 : Int32), h)
                  else
                    some ((0 : Int32), h)
                else
                  if (x1 / (10000 : Int32)) = 9 then
                    if ((x1 / (100 : Int32)) - (x1 / (100 : Int32)) / (10 : Int32) * (10 : Int32)) = 0 then
                      (f_S_hasWall h (fld a0 0) ((x1 / (1000 : Int32)) - (x1 / (1000 : Int32)) / (10 : Int32) * (10 : Int32))).bind fun v50 =>
                      if v50 = 0 then
                        some ((0 : Int32), h)
                      else
                        (f_A_freeByMetres h a0 ((x1 / (1000 : Int32)) - (x1 / (1000 : Int32)) / (10 : Int32) * (10 : Int32))).bind fun v53 =>
                        if v53 < (x1 - x1 / (100 : Int32) * (100 : Int32)) then
                          some ((0 : Int32), h)
                        else
                          some ((1 : Int32), h)
                    else
                      some ((0 : Int32), h)
                  else
                    some ((0 : Int32), h)
set_option maxHeartbeats 1000000 in
theorem x_C_obeyGroup {l : Launch} {D : va_G} {ad : Nat → Nat} {aC : Nat → ClassId} (hf : l.flags = flags0) (hI : Inj ad) {h : HP} {a0 : Nat} {x1 : Int32} {r : Int32 × HP} (k0 : knd a0 = 1) (e : f_C_obeyGroup h a0 x1 = some r) : CT l D ad aC m_C_obeyGroup [.ref a0, .int x1] h (.inl (some (.int r.1))) r.2 := by
  refine CT.ofGo (by decide +kernel) rfl (Nat.le_of_ble_eq_true rfl) ?_
  unfold f_C_obeyGroup at e
  show Go l D ad aC (rmk m_C_obeyGroup) _ m_C_obeyGroup 0 [some (.ref a0), some (.int x1), none, none, none, none, none] [] h 0 0
  refine Go.run (pc' := 43) [.iload_n 1, .sipush (1000), .idiv, .bipush (10), .irem, .istore_n 2, .iload_n 1, .bipush (100), .idiv, .bipush (10), .irem, .istore_n 3, .iload_n 1, .bipush (10), .idiv, .bipush (10), .irem, .istore 4, .iload_n 1, .bipush (10), .irem, .istore 5, .iload_n 1, .bipush (100), .irem, .istore 6, .iload_n 1, .sipush (10000), .idiv] (ls' := [some (.ref a0), some (.int x1), some (.int ((x1 / (1000 : Int32)) - (x1 / (1000 : Int32)) / (10 : Int32) * (10 : Int32))), some (.int ((x1 / (100 : Int32)) - (x1 / (100 : Int32)) / (10 : Int32) * (10 : Int32))), some (.int ((x1 / (10 : Int32)) - (x1 / (10 : Int32)) / (10 : Int32) * (10 : Int32))), some (.int (x1 - x1 / (10 : Int32) * (10 : Int32))), some (.int (x1 - x1 / (100 : Int32) * (100 : Int32)))]) (st' := [.int (x1 / (10000 : Int32))]) (by decide +kernel) rfl rfl ?_
  rcases Decidable.em ((x1 / (10000 : Int32)) = 1) with c1 | c1
  · replace e := ite_t c1 e
    refine Go.tsIn (dflt := 280) (lo := 1) (hi := 9) (offs := #[49, 66, 86, 110, 134, 155, 179, 210, 249]) (len := 49) (off := 49) (tgt := 92) 1 (by decide +kernel) (by rw [c1]; decide) (by decide) (by decide) (by decide) (by decide) ?_
    refine Go.run (pc' := 97) [.aload_n 0, .iload_n 2, .iload_n 3, .iload 6] (ls' := [some (.ref a0), some (.int x1), some (.int ((x1 / (1000 : Int32)) - (x1 / (1000 : Int32)) / (10 : Int32) * (10 : Int32))), some (.int ((x1 / (100 : Int32)) - (x1 / (100 : Int32)) / (10 : Int32) * (10 : Int32))), some (.int ((x1 / (10 : Int32)) - (x1 / (10 : Int32)) / (10 : Int32) * (10 : Int32))), some (.int (x1 - x1 / (10 : Int32) * (10 : Int32))), some (.int (x1 - x1 / (100 : Int32) * (100 : Int32)))]) (st' := [.int (x1 - x1 / (100 : Int32) * (100 : Int32)), .int ((x1 / (100 : Int32)) - (x1 / (100 : Int32)) / (10 : Int32) * (10 : Int32)), .int ((x1 / (1000 : Int32)) - (x1 / (1000 : Int32)) / (10 : Int32) * (10 : Int32)), .ref a0]) (by decide +kernel) rfl rfl ?_
    obtain ⟨v2, e3, e⟩ := bd_inv e
    refine Go.callV (M2 := m_A_letStand) (a := a0) (as := [.int ((x1 / (1000 : Int32)) - (x1 / (1000 : Int32)) / (10 : Int32) * (10 : Int32)), .int ((x1 / (100 : Int32)) - (x1 / (100 : Int32)) / (10 : Int32) * (10 : Int32)), .int (x1 - x1 / (100 : Int32) * (100 : Int32))]) (rest := []) (v := some (.int v2.1)) (h1 := v2.2) (x_A_letStand hf hI k0 e3) wv_C_31 k0 kc_1 (by decide +kernel) rfl rfl ⟨⟨Nat.le_of_ble_eq_true rfl, Nat.le_of_ble_eq_true rfl⟩, ⟨Nat.le_of_ble_eq_true rfl, Nat.le_of_ble_eq_true rfl⟩⟩ (Nat.le_of_ble_eq_true rfl) ?_
    show Go l D ad aC (rmk m_C_obeyGroup) _ m_C_obeyGroup 100 [some (.ref a0), some (.int x1), some (.int ((x1 / (1000 : Int32)) - (x1 / (1000 : Int32)) / (10 : Int32) * (10 : Int32))), some (.int ((x1 / (100 : Int32)) - (x1 / (100 : Int32)) / (10 : Int32) * (10 : Int32))), some (.int ((x1 / (10 : Int32)) - (x1 / (10 : Int32)) / (10 : Int32) * (10 : Int32))), some (.int (x1 - x1 / (10 : Int32) * (10 : Int32))), some (.int (x1 - x1 / (100 : Int32) * (100 : Int32)))] [.int v2.1] v2.2 0 0
    refine Go.if_ne (off := 7) (tgt := 107) (by decide +kernel) (by decide) (fun c4 => ?_) (fun c4 => ?_)
    · replace e := ite_f c4 e
      refine Go.run (pc' := 108) [.iconst 0] (ls' := [some (.ref a0), some (.int x1), some (.int ((x1 / (1000 : Int32)) - (x1 / (1000 : Int32)) / (10 : Int32) * (10 : Int32))), some (.int ((x1 / (100 : Int32)) - (x1 / (100 : Int32)) / (10 : Int32) * (10 : Int32))), some (.int ((x1 / (10 : Int32)) - (x1 / (10 : Int32)) / (10 : Int32) * (10 : Int32))), some (.int (x1 - x1 / (10 : Int32) * (10 : Int32))), some (.int (x1 - x1 / (100 : Int32) * (100 : Int32)))]) (st' := [.int (0 : Int32)]) (by decide +kernel) rfl rfl ?_
      obtain rfl := Option.some.inj e
      exact Go.zret rfl nar_z0 (by decide) (by decide) (by decide +kernel)
    · replace e := ite_t c4 e
      refine Go.run (pc' := 104) [.iconst 1] (ls' := [some (.ref a0), some (.int x1), some (.int ((x1 / (1000 : Int32)) - (x1 / (1000 : Int32)) / (10 : Int32) * (10 : Int32))), some (.int ((x1 / (100 : Int32)) - (x1 / (100 : Int32)) / (10 : Int32) * (10 : Int32))), some (.int ((x1 / (10 : Int32)) - (x1 / (10 : Int32)) / (10 : Int32) * (10 : Int32))), some (.int (x1 - x1 / (10 : Int32) * (10 : Int32))), some (.int (x1 - x1 / (100 : Int32) * (100 : Int32)))]) (st' := [.int (1 : Int32)]) (by decide +kernel) rfl rfl ?_
      refine Go.goto (off := 4) (tgt := 108) (by decide +kernel) (by decide) ?_
      obtain rfl := Option.some.inj e
      exact Go.zret rfl nar_z1 (by decide) (by decide) (by decide +kernel)
  replace e := ite_f c1 e
  rcases Decidable.em ((x1 / (10000 : Int32)) = 2) with c5 | c5
  · replace e := ite_t c5 e
    refine Go.tsIn (dflt := 280) (lo := 1) (hi := 9) (offs := #[49, 66, 86, 110, 134, 155, 179, 210, 249]) (len := 49) (off := 66) (tgt := 109) 2 (by decide +kernel) (by rw [c5]; decide) (by decide) (by decide) (by decide) (by decide) ?_
    refine Go.run (pc' := 111) [.iload 6] (ls' := [some (.ref a0), some (.int x1), some (.int ((x1 / (1000 : Int32)) - (x1 / (1000 : Int32)) / (10 : Int32) * (10 : Int32))), some (.int ((x1 / (100 : Int32)) - (x1 / (100 : Int32)) / (10 : Int32) * (10 : Int32))), some (.int ((x1 / (10 : Int32)) - (x1 / (10 : Int32)) / (10 : Int32) * (10 : Int32))), some (.int (x1 - x1 / (10 : Int32) * (10 : Int32))), some (.int (x1 - x1 / (100 : Int32) * (100 : Int32)))]) (st' := [.int (x1 - x1 / (100 : Int32) * (100 : Int32))]) (by decide +kernel) rfl rfl ?_
    refine Go.if_ne (off := 16) (tgt := 127) (by decide +kernel) (by decide) (fun c6 => ?_) (fun c6 => ?_)
    · replace e := ite_f c6 e
      refine Go.run (pc' := 128) [.iconst 0] (ls' := [some (.ref a0), some (.int x1), some (.int ((x1 / (1000 : Int32)) - (x1 / (1000 : Int32)) / (10 : Int32) * (10 : Int32))), some (.int ((x1 / (100 : Int32)) - (x1 / (100 : Int32)) / (10 : Int32) * (10 : Int32))), some (.int ((x1 / (10 : Int32)) - (x1 / (10 : Int32)) / (10 : Int32) * (10 : Int32))), some (.int (x1 - x1 / (10 : Int32) * (10 : Int32))), some (.int (x1 - x1 / (100 : Int32) * (100 : Int32)))]) (st' := [.int (0 : Int32)]) (by decide +kernel) rfl rfl ?_
      obtain rfl := Option.some.inj e
      exact Go.zret rfl nar_z0 (by decide) (by decide) (by decide +kernel)
    · replace e := ite_t c6 e
      refine Go.run (pc' := 117) [.aload_n 0, .iload_n 2, .iload_n 3] (ls' := [some (.ref a0), some (.int x1), some (.int ((x1 / (1000 : Int32)) - (x1 / (1000 : Int32)) / (10 : Int32) * (10 : Int32))), some (.int ((x1 / (100 : Int32)) - (x1 / (100 : Int32)) / (10 : Int32) * (10 : Int32))), some (.int ((x1 / (10 : Int32)) - (x1 / (10 : Int32)) / (10 : Int32) * (10 : Int32))), some (.int (x1 - x1 / (10 : Int32) * (10 : Int32))), some (.int (x1 - x1 / (100 : Int32) * (100 : Int32)))]) (st' := [.int ((x1 / (100 : Int32)) - (x1 / (100 : Int32)) / (10 : Int32) * (10 : Int32)), .int ((x1 / (1000 : Int32)) - (x1 / (1000 : Int32)) / (10 : Int32) * (10 : Int32)), .ref a0]) (by decide +kernel) rfl rfl ?_
      obtain ⟨v7, e8, e⟩ := bd_inv e
      refine Go.callV (M2 := m_A_exchange) (a := a0) (as := [.int ((x1 / (1000 : Int32)) - (x1 / (1000 : Int32)) / (10 : Int32) * (10 : Int32)), .int ((x1 / (100 : Int32)) - (x1 / (100 : Int32)) / (10 : Int32) * (10 : Int32))]) (rest := []) (v := some (.int v7.1)) (h1 := v7.2) (x_A_exchange hf hI k0 e8) wv_C_37 k0 kc_1 (by decide +kernel) rfl rfl ⟨⟨Nat.le_of_ble_eq_true rfl, Nat.le_of_ble_eq_true rfl⟩, ⟨Nat.le_of_ble_eq_true rfl, Nat.le_of_ble_eq_true rfl⟩⟩ (Nat.le_of_ble_eq_true rfl) ?_
      show Go l D ad aC (rmk m_C_obeyGroup) _ m_C_obeyGroup 120 [some (.ref a0), some (.int x1), some (.int ((x1 / (1000 : Int32)) - (x1 / (1000 : Int32)) / (10 : Int32) * (10 : Int32))), some (.int ((x1 / (100 : Int32)) - (x1 / (100 : Int32)) / (10 : Int32) * (10 : Int32))), some (.int ((x1 / (10 : Int32)) - (x1 / (10 : Int32)) / (10 : Int32) * (10 : Int32))), some (.int (x1 - x1 / (10 : Int32) * (10 : Int32))), some (.int (x1 - x1 / (100 : Int32) * (100 : Int32)))] [.int v7.1] v7.2 0 0
      refine Go.if_ne (off := 7) (tgt := 127) (by decide +kernel) (by decide) (fun c9 => ?_) (fun c9 => ?_)
      · replace e := ite_f c9 e
        refine Go.run (pc' := 128) [.iconst 0] (ls' := [some (.ref a0), some (.int x1), some (.int ((x1 / (1000 : Int32)) - (x1 / (1000 : Int32)) / (10 : Int32) * (10 : Int32))), some (.int ((x1 / (100 : Int32)) - (x1 / (100 : Int32)) / (10 : Int32) * (10 : Int32))), some (.int ((x1 / (10 : Int32)) - (x1 / (10 : Int32)) / (10 : Int32) * (10 : Int32))), some (.int (x1 - x1 / (10 : Int32) * (10 : Int32))), some (.int (x1 - x1 / (100 : Int32) * (100 : Int32)))]) (st' := [.int (0 : Int32)]) (by decide +kernel) rfl rfl ?_
        obtain rfl := Option.some.inj e
        exact Go.zret rfl nar_z0 (by decide) (by decide) (by decide +kernel)
      · replace e := ite_t c9 e
        refine Go.run (pc' := 124) [.iconst 1] (ls' := [some (.ref a0), some (.int x1), some (.int ((x1 / (1000 : Int32)) - (x1 / (1000 : Int32)) / (10 : Int32) * (10 : Int32))), some (.int ((x1 / (100 : Int32)) - (x1 / (100 : Int32)) / (10 : Int32) * (10 : Int32))), some (.int ((x1 / (10 : Int32)) - (x1 / (10 : Int32)) / (10 : Int32) * (10 : Int32))), some (.int (x1 - x1 / (10 : Int32) * (10 : Int32))), some (.int (x1 - x1 / (100 : Int32) * (100 : Int32)))]) (st' := [.int (1 : Int32)]) (by decide +kernel) rfl rfl ?_
        refine Go.goto (off := 4) (tgt := 128) (by decide +kernel) (by decide) ?_
        obtain rfl := Option.some.inj e
        exact Go.zret rfl nar_z1 (by decide) (by decide) (by decide +kernel)
  replace e := ite_f c5 e
  rcases Decidable.em ((x1 / (10000 : Int32)) = 3) with c10 | c10
  · replace e := ite_t c10 e
    refine Go.tsIn (dflt := 280) (lo := 1) (hi := 9) (offs := #[49, 66, 86, 110, 134, 155, 179, 210, 249]) (len := 49) (off := 86) (tgt := 129) 3 (by decide +kernel) (by rw [c10]; decide) (by decide) (by decide) (by decide) (by decide) ?_
    refine Go.run (pc' := 130) [.iload_n 3] (ls' := [some (.ref a0), some (.int x1), some (.int ((x1 / (1000 : Int32)) - (x1 / (1000 : Int32)) / (10 : Int32) * (10 : Int32))), some (.int ((x1 / (100 : Int32)) - (x1 / (100 : Int32)) / (10 : Int32) * (10 : Int32))), some (.int ((x1 / (10 : Int32)) - (x1 / (10 : Int32)) / (10 : Int32) * (10 : Int32))), some (.int (x1 - x1 / (10 : Int32) * (10 : Int32))), some (.int (x1 - x1 / (100 : Int32) * (100 : Int32)))]) (st' := [.int ((x1 / (100 : Int32)) - (x1 / (100 : Int32)) / (10 : Int32) * (10 : Int32))]) (by decide +kernel) rfl rfl ?_
    refine Go.if_ne (off := 21) (tgt := 151) (by decide +kernel) (by decide) (fun c11 => ?_) (fun c11 => ?_)
    · replace e := ite_f c11 e
      refine Go.run (pc' := 152) [.iconst 0] (ls' := [some (.ref a0), some (.int x1), some (.int ((x1 / (1000 : Int32)) - (x1 / (1000 : Int32)) / (10 : Int32) * (10 : Int32))), some (.int ((x1 / (100 : Int32)) - (x1 / (100 : Int32)) / (10 : Int32) * (10 : Int32))), some (.int ((x1 / (10 : Int32)) - (x1 / (10 : Int32)) / (10 : Int32) * (10 : Int32))), some (.int (x1 - x1 / (10 : Int32) * (10 : Int32))), some (.int (x1 - x1 / (100 : Int32) * (100 : Int32)))]) (st' := [.int (0 : Int32)]) (by decide +kernel) rfl rfl ?_
      obtain rfl := Option.some.inj e
      exact Go.zret rfl nar_z0 (by decide) (by decide) (by decide +kernel)
    · replace e := ite_t c11 e
      refine Go.run (pc' := 135) [.iload 6] (ls' := [some (.ref a0), some (.int x1), some (.int ((x1 / (1000 : Int32)) - (x1 / (1000 : Int32)) / (10 : Int32) * (10 : Int32))), some (.int ((x1 / (100 : Int32)) - (x1 / (100 : Int32)) / (10 : Int32) * (10 : Int32))), some (.int ((x1 / (10 : Int32)) - (x1 / (10 : Int32)) / (10 : Int32) * (10 : Int32))), some (.int (x1 - x1 / (10 : Int32) * (10 : Int32))), some (.int (x1 - x1 / (100 : Int32) * (100 : Int32)))]) (st' := [.int (x1 - x1 / (100 : Int32) * (100 : Int32))]) (by decide +kernel) rfl rfl ?_
      refine Go.if_ne (off := 16) (tgt := 151) (by decide +kernel) (by decide) (fun c12 => ?_) (fun c12 => ?_)
      · replace e := ite_f c12 e
        refine Go.run (pc' := 152) [.iconst 0] (ls' := [some (.ref a0), some (.int x1), some (.int ((x1 / (1000 : Int32)) - (x1 / (1000 : Int32)) / (10 : Int32) * (10 : Int32))), some (.int ((x1 / (100 : Int32)) - (x1 / (100 : Int32)) / (10 : Int32) * (10 : Int32))), some (.int ((x1 / (10 : Int32)) - (x1 / (10 : Int32)) / (10 : Int32) * (10 : Int32))), some (.int (x1 - x1 / (10 : Int32) * (10 : Int32))), some (.int (x1 - x1 / (100 : Int32) * (100 : Int32)))]) (st' := [.int (0 : Int32)]) (by decide +kernel) rfl rfl ?_
        obtain rfl := Option.some.inj e
        exact Go.zret rfl nar_z0 (by decide) (by decide) (by decide +kernel)
      · replace e := ite_t c12 e
        refine Go.run (pc' := 140) [.aload_n 0, .iload_n 2] (ls' := [some (.ref a0), some (.int x1), some (.int ((x1 / (1000 : Int32)) - (x1 / (1000 : Int32)) / (10 : Int32) * (10 : Int32))), some (.int ((x1 / (100 : Int32)) - (x1 / (100 : Int32)) / (10 : Int32) * (10 : Int32))), some (.int ((x1 / (10 : Int32)) - (x1 / (10 : Int32)) / (10 : Int32) * (10 : Int32))), some (.int (x1 - x1 / (10 : Int32) * (10 : Int32))), some (.int (x1 - x1 / (100 : Int32) * (100 : Int32)))]) (st' := [.int ((x1 / (1000 : Int32)) - (x1 / (1000 : Int32)) / (10 : Int32) * (10 : Int32)), .ref a0]) (by decide +kernel) rfl rfl ?_
        obtain ⟨v13, e14, e⟩ := bd_inv e
        refine Go.callV (M2 := m_A_sendAway) (a := a0) (as := [.int ((x1 / (1000 : Int32)) - (x1 / (1000 : Int32)) / (10 : Int32) * (10 : Int32))]) (rest := []) (v := some (.int v13.1)) (h1 := v13.2) (x_A_sendAway hf hI k0 e14) wv_C_34 k0 kc_1 (by decide +kernel) rfl rfl ⟨⟨Nat.le_of_ble_eq_true rfl, Nat.le_of_ble_eq_true rfl⟩, ⟨Nat.le_of_ble_eq_true rfl, Nat.le_of_ble_eq_true rfl⟩⟩ (Nat.le_of_ble_eq_true rfl) ?_
        show Go l D ad aC (rmk m_C_obeyGroup) _ m_C_obeyGroup 143 [some (.ref a0), some (.int x1), some (.int ((x1 / (1000 : Int32)) - (x1 / (1000 : Int32)) / (10 : Int32) * (10 : Int32))), some (.int ((x1 / (100 : Int32)) - (x1 / (100 : Int32)) / (10 : Int32) * (10 : Int32))), some (.int ((x1 / (10 : Int32)) - (x1 / (10 : Int32)) / (10 : Int32) * (10 : Int32))), some (.int (x1 - x1 / (10 : Int32) * (10 : Int32))), some (.int (x1 - x1 / (100 : Int32) * (100 : Int32)))] [.int v13.1] v13.2 0 0
        refine Go.run (pc' := 144) [.iconst (-1)] (ls' := [some (.ref a0), some (.int x1), some (.int ((x1 / (1000 : Int32)) - (x1 / (1000 : Int32)) / (10 : Int32) * (10 : Int32))), some (.int ((x1 / (100 : Int32)) - (x1 / (100 : Int32)) / (10 : Int32) * (10 : Int32))), some (.int ((x1 / (10 : Int32)) - (x1 / (10 : Int32)) / (10 : Int32) * (10 : Int32))), some (.int (x1 - x1 / (10 : Int32) * (10 : Int32))), some (.int (x1 - x1 / (100 : Int32) * (100 : Int32)))]) (st' := [.int (-1 : Int32), .int v13.1]) (by decide +kernel) rfl rfl ?_
        refine Go.ic_eq (off := 7) (tgt := 151) (by decide +kernel) (by decide) (fun c15 => ?_) (fun c15 => ?_)
        · replace e := ite_t c15 e
          refine Go.run (pc' := 152) [.iconst 0] (ls' := [some (.ref a0), some (.int x1), some (.int ((x1 / (1000 : Int32)) - (x1 / (1000 : Int32)) / (10 : Int32) * (10 : Int32))), some (.int ((x1 / (100 : Int32)) - (x1 / (100 : Int32)) / (10 : Int32) * (10 : Int32))), some (.int ((x1 / (10 : Int32)) - (x1 / (10 : Int32)) / (10 : Int32) * (10 : Int32))), some (.int (x1 - x1 / (10 : Int32) * (10 : Int32))), some (.int (x1 - x1 / (100 : Int32) * (100 : Int32)))]) (st' := [.int (0 : Int32)]) (by decide +kernel) rfl rfl ?_
          obtain rfl := Option.some.inj e
          exact Go.zret rfl nar_z0 (by decide) (by decide) (by decide +kernel)
        · replace e := ite_f c15 e
          refine Go.run (pc' := 148) [.iconst 1] (ls' := [some (.ref a0), some (.int x1), some (.int ((x1 / (1000 : Int32)) - (x1 / (1000 : Int32)) / (10 : Int32) * (10 : Int32))), some (.int ((x1 / (100 : Int32)) - (x1 / (100 : Int32)) / (10 : Int32) * (10 : Int32))), some (.int ((x1 / (10 : Int32)) - (x1 / (10 : Int32)) / (10 : Int32) * (10 : Int32))), some (.int (x1 - x1 / (10 : Int32) * (10 : Int32))), some (.int (x1 - x1 / (100 : Int32) * (100 : Int32)))]) (st' := [.int (1 : Int32)]) (by decide +kernel) rfl rfl ?_
          refine Go.goto (off := 4) (tgt := 152) (by decide +kernel) (by decide) ?_
          obtain rfl := Option.some.inj e
          exact Go.zret rfl nar_z1 (by decide) (by decide) (by decide +kernel)
  replace e := ite_f c10 e
  rcases Decidable.em ((x1 / (10000 : Int32)) = 4) with c16 | c16
  · replace e := ite_t c16 e
    refine Go.tsIn (dflt := 280) (lo := 1) (hi := 9) (offs := #[49, 66, 86, 110, 134, 155, 179, 210, 249]) (len := 49) (off := 110) (tgt := 153) 4 (by decide +kernel) (by rw [c16]; decide) (by decide) (by decide) (by decide) (by decide) ?_
    refine Go.run (pc' := 154) [.iload_n 2] (ls' := [some (.ref a0), some (.int x1), some (.int ((x1 / (1000 : Int32)) - (x1 / (1000 : Int32)) / (10 : Int32) * (10 : Int32))), some (.int ((x1 / (100 : Int32)) - (x1 / (100 : Int32)) / (10 : Int32) * (10 : Int32))), some (.int ((x1 / (10 : Int32)) - (x1 / (10 : Int32)) / (10 : Int32) * (10 : Int32))), some (.int (x1 - x1 / (10 : Int32) * (10 : Int32))), some (.int (x1 - x1 / (100 : Int32) * (100 : Int32)))]) (st' := [.int ((x1 / (1000 : Int32)) - (x1 / (1000 : Int32)) / (10 : Int32) * (10 : Int32))]) (by decide +kernel) rfl rfl ?_
    refine Go.if_ne (off := 21) (tgt := 175) (by decide +kernel) (by decide) (fun c17 => ?_) (fun c17 => ?_)
    · replace e := ite_f c17 e
      refine Go.run (pc' := 176) [.iconst 0] (ls' := [some (.ref a0), some (.int x1), some (.int ((x1 / (1000 : Int32)) - (x1 / (1000 : Int32)) / (10 : Int32) * (10 : Int32))), some (.int ((x1 / (100 : Int32)) - (x1 / (100 : Int32)) / (10 : Int32) * (10 : Int32))), some (.int ((x1 / (10 : Int32)) - (x1 / (10 : Int32)) / (10 : Int32) * (10 : Int32))), some (.int (x1 - x1 / (10 : Int32) * (10 : Int32))), some (.int (x1 - x1 / (100 : Int32) * (100 : Int32)))]) (st' := [.int (0 : Int32)]) (by decide +kernel) rfl rfl ?_
      obtain rfl := Option.some.inj e
      exact Go.zret rfl nar_z0 (by decide) (by decide) (by decide +kernel)
    · replace e := ite_t c17 e
      refine Go.run (pc' := 158) [.iload_n 3] (ls' := [some (.ref a0), some (.int x1), some (.int ((x1 / (1000 : Int32)) - (x1 / (1000 : Int32)) / (10 : Int32) * (10 : Int32))), some (.int ((x1 / (100 : Int32)) - (x1 / (100 : Int32)) / (10 : Int32) * (10 : Int32))), some (.int ((x1 / (10 : Int32)) - (x1 / (10 : Int32)) / (10 : Int32) * (10 : Int32))), some (.int (x1 - x1 / (10 : Int32) * (10 : Int32))), some (.int (x1 - x1 / (100 : Int32) * (100 : Int32)))]) (st' := [.int ((x1 / (100 : Int32)) - (x1 / (100 : Int32)) / (10 : Int32) * (10 : Int32))]) (by decide +kernel) rfl rfl ?_
      refine Go.if_ne (off := 17) (tgt := 175) (by decide +kernel) (by decide) (fun c18 => ?_) (fun c18 => ?_)
      · replace e := ite_f c18 e
        refine Go.run (pc' := 176) [.iconst 0] (ls' := [some (.ref a0), some (.int x1), some (.int ((x1 / (1000 : Int32)) - (x1 / (1000 : Int32)) / (10 : Int32) * (10 : Int32))), some (.int ((x1 / (100 : Int32)) - (x1 / (100 : Int32)) / (10 : Int32) * (10 : Int32))), some (.int ((x1 / (10 : Int32)) - (x1 / (10 : Int32)) / (10 : Int32) * (10 : Int32))), some (.int (x1 - x1 / (10 : Int32) * (10 : Int32))), some (.int (x1 - x1 / (100 : Int32) * (100 : Int32)))]) (st' := [.int (0 : Int32)]) (by decide +kernel) rfl rfl ?_
        obtain rfl := Option.some.inj e
        exact Go.zret rfl nar_z0 (by decide) (by decide) (by decide +kernel)
      · replace e := ite_t c18 e
        refine Go.run (pc' := 164) [.aload_n 0, .iload 6] (ls' := [some (.ref a0), some (.int x1), some (.int ((x1 / (1000 : Int32)) - (x1 / (1000 : Int32)) / (10 : Int32) * (10 : Int32))), some (.int ((x1 / (100 : Int32)) - (x1 / (100 : Int32)) / (10 : Int32) * (10 : Int32))), some (.int ((x1 / (10 : Int32)) - (x1 / (10 : Int32)) / (10 : Int32) * (10 : Int32))), some (.int (x1 - x1 / (10 : Int32) * (10 : Int32))), some (.int (x1 - x1 / (100 : Int32) * (100 : Int32)))]) (st' := [.int (x1 - x1 / (100 : Int32) * (100 : Int32)), .ref a0]) (by decide +kernel) rfl rfl ?_
        obtain ⟨v19, e20, e⟩ := bd_inv e
        refine Go.callV (M2 := m_A_passDays) (a := a0) (as := [.int (x1 - x1 / (100 : Int32) * (100 : Int32))]) (rest := []) (v := some (.int v19.1)) (h1 := v19.2) (x_A_passDays hf hI k0 e20) wv_C_41 k0 kc_1 (by decide +kernel) rfl rfl ⟨⟨Nat.le_of_ble_eq_true rfl, Nat.le_of_ble_eq_true rfl⟩, ⟨Nat.le_of_ble_eq_true rfl, Nat.le_of_ble_eq_true rfl⟩⟩ (Nat.le_of_ble_eq_true rfl) ?_
        show Go l D ad aC (rmk m_C_obeyGroup) _ m_C_obeyGroup 167 [some (.ref a0), some (.int x1), some (.int ((x1 / (1000 : Int32)) - (x1 / (1000 : Int32)) / (10 : Int32) * (10 : Int32))), some (.int ((x1 / (100 : Int32)) - (x1 / (100 : Int32)) / (10 : Int32) * (10 : Int32))), some (.int ((x1 / (10 : Int32)) - (x1 / (10 : Int32)) / (10 : Int32) * (10 : Int32))), some (.int (x1 - x1 / (10 : Int32) * (10 : Int32))), some (.int (x1 - x1 / (100 : Int32) * (100 : Int32)))] [.int v19.1] v19.2 0 0
        refine Go.run (pc' := 168) [.iconst (-1)] (ls' := [some (.ref a0), some (.int x1), some (.int ((x1 / (1000 : Int32)) - (x1 / (1000 : Int32)) / (10 : Int32) * (10 : Int32))), some (.int ((x1 / (100 : Int32)) - (x1 / (100 : Int32)) / (10 : Int32) * (10 : Int32))), some (.int ((x1 / (10 : Int32)) - (x1 / (10 : Int32)) / (10 : Int32) * (10 : Int32))), some (.int (x1 - x1 / (10 : Int32) * (10 : Int32))), some (.int (x1 - x1 / (100 : Int32) * (100 : Int32)))]) (st' := [.int (-1 : Int32), .int v19.1]) (by decide +kernel) rfl rfl ?_
        refine Go.ic_eq (off := 7) (tgt := 175) (by decide +kernel) (by decide) (fun c21 => ?_) (fun c21 => ?_)
        · replace e := ite_t c21 e
          refine Go.run (pc' := 176) [.iconst 0] (ls' := [some (.ref a0), some (.int x1), some (.int ((x1 / (1000 : Int32)) - (x1 / (1000 : Int32)) / (10 : Int32) * (10 : Int32))), some (.int ((x1 / (100 : Int32)) - (x1 / (100 : Int32)) / (10 : Int32) * (10 : Int32))), some (.int ((x1 / (10 : Int32)) - (x1 / (10 : Int32)) / (10 : Int32) * (10 : Int32))), some (.int (x1 - x1 / (10 : Int32) * (10 : Int32))), some (.int (x1 - x1 / (100 : Int32) * (100 : Int32)))]) (st' := [.int (0 : Int32)]) (by decide +kernel) rfl rfl ?_
          obtain rfl := Option.some.inj e
          exact Go.zret rfl nar_z0 (by decide) (by decide) (by decide +kernel)
        · replace e := ite_f c21 e
          refine Go.run (pc' := 172) [.iconst 1] (ls' := [some (.ref a0), some (.int x1), some (.int ((x1 / (1000 : Int32)) - (x1 / (1000 : Int32)) / (10 : Int32) * (10 : Int32))), some (.int ((x1 / (100 : Int32)) - (x1 / (100 : Int32)) / (10 : Int32) * (10 : Int32))), some (.int ((x1 / (10 : Int32)) - (x1 / (10 : Int32)) / (10 : Int32) * (10 : Int32))), some (.int (x1 - x1 / (10 : Int32) * (10 : Int32))), some (.int (x1 - x1 / (100 : Int32) * (100 : Int32)))]) (st' := [.int (1 : Int32)]) (by decide +kernel) rfl rfl ?_
          refine Go.goto (off := 4) (tgt := 176) (by decide +kernel) (by decide) ?_
          obtain rfl := Option.some.inj e
          exact Go.zret rfl nar_z1 (by decide) (by decide) (by decide +kernel)
  replace e := ite_f c16 e
  rcases Decidable.em ((x1 / (10000 : Int32)) = 5) with c22 | c22
  · replace e := ite_t c22 e
    refine Go.tsIn (dflt := 280) (lo := 1) (hi := 9) (offs := #[49, 66, 86, 110, 134, 155, 179, 210, 249]) (len := 49) (off := 134) (tgt := 177) 5 (by decide +kernel) (by rw [c22]; decide) (by decide) (by decide) (by decide) (by decide) ?_
    refine Go.run (pc' := 178) [.iload_n 3] (ls' := [some (.ref a0), some (.int x1), some (.int ((x1 / (1000 : Int32)) - (x1 / (1000 : Int32)) / (10 : Int32) * (10 : Int32))), some (.int ((x1 / (100 : Int32)) - (x1 / (100 : Int32)) / (10 : Int32) * (10 : Int32))), some (.int ((x1 / (10 : Int32)) - (x1 / (10 : Int32)) / (10 : Int32) * (10 : Int32))), some (.int (x1 - x1 / (10 : Int32) * (10 : Int32))), some (.int (x1 - x1 / (100 : Int32) * (100 : Int32)))]) (st' := [.int ((x1 / (100 : Int32)) - (x1 / (100 : Int32)) / (10 : Int32) * (10 : Int32))]) (by decide +kernel) rfl rfl ?_
    refine Go.if_ne (off := 18) (tgt := 196) (by decide +kernel) (by decide) (fun c23 => ?_) (fun c23 => ?_)
    · replace e := ite_f c23 e
      refine Go.run (pc' := 197) [.iconst 0] (ls' := [some (.ref a0), some (.int x1), some (.int ((x1 / (1000 : Int32)) - (x1 / (1000 : Int32)) / (10 : Int32) * (10 : Int32))), some (.int ((x1 / (100 : Int32)) - (x1 / (100 : Int32)) / (10 : Int32) * (10 : Int32))), some (.int ((x1 / (10 : Int32)) - (x1 / (10 : Int32)) / (10 : Int32) * (10 : Int32))), some (.int (x1 - x1 / (10 : Int32) * (10 : Int32))), some (.int (x1 - x1 / (100 : Int32) * (100 : Int32)))]) (st' := [.int (0 : Int32)]) (by decide +kernel) rfl rfl ?_
      obtain rfl := Option.some.inj e
      exact Go.zret rfl nar_z0 (by decide) (by decide) (by decide +kernel)
    · replace e := ite_t c23 e
      refine Go.run (pc' := 185) [.aload_n 0, .iload_n 2, .iload 6] (ls' := [some (.ref a0), some (.int x1), some (.int ((x1 / (1000 : Int32)) - (x1 / (1000 : Int32)) / (10 : Int32) * (10 : Int32))), some (.int ((x1 / (100 : Int32)) - (x1 / (100 : Int32)) / (10 : Int32) * (10 : Int32))), some (.int ((x1 / (10 : Int32)) - (x1 / (10 : Int32)) / (10 : Int32) * (10 : Int32))), some (.int (x1 - x1 / (10 : Int32) * (10 : Int32))), some (.int (x1 - x1 / (100 : Int32) * (100 : Int32)))]) (st' := [.int (x1 - x1 / (100 : Int32) * (100 : Int32)), .int ((x1 / (1000 : Int32)) - (x1 / (1000 : Int32)) / (10 : Int32) * (10 : Int32)), .ref a0]) (by decide +kernel) rfl rfl ?_
      obtain ⟨v24, e25, e⟩ := bd_inv e
      refine Go.callV (M2 := m_A_changeSetting) (a := a0) (as := [.int ((x1 / (1000 : Int32)) - (x1 / (1000 : Int32)) / (10 : Int32) * (10 : Int32)), .int (x1 - x1 / (100 : Int32) * (100 : Int32))]) (rest := []) (v := some (.int v24.1)) (h1 := v24.2) (x_A_changeSetting hf hI k0 e25) wv_C_44 k0 kc_1 (by decide +kernel) rfl rfl ⟨⟨Nat.le_of_ble_eq_true rfl, Nat.le_of_ble_eq_true rfl⟩, ⟨Nat.le_of_ble_eq_true rfl, Nat.le_of_ble_eq_true rfl⟩⟩ (Nat.le_of_ble_eq_true rfl) ?_
      show Go l D ad aC (rmk m_C_obeyGroup) _ m_C_obeyGroup 188 [some (.ref a0), some (.int x1), some (.int ((x1 / (1000 : Int32)) - (x1 / (1000 : Int32)) / (10 : Int32) * (10 : Int32))), some (.int ((x1 / (100 : Int32)) - (x1 / (100 : Int32)) / (10 : Int32) * (10 : Int32))), some (.int ((x1 / (10 : Int32)) - (x1 / (10 : Int32)) / (10 : Int32) * (10 : Int32))), some (.int (x1 - x1 / (10 : Int32) * (10 : Int32))), some (.int (x1 - x1 / (100 : Int32) * (100 : Int32)))] [.int v24.1] v24.2 0 0
      refine Go.run (pc' := 189) [.iconst (-1)] (ls' := [some (.ref a0), some (.int x1), some (.int ((x1 / (1000 : Int32)) - (x1 / (1000 : Int32)) / (10 : Int32) * (10 : Int32))), some (.int ((x1 / (100 : Int32)) - (x1 / (100 : Int32)) / (10 : Int32) * (10 : Int32))), some (.int ((x1 / (10 : Int32)) - (x1 / (10 : Int32)) / (10 : Int32) * (10 : Int32))), some (.int (x1 - x1 / (10 : Int32) * (10 : Int32))), some (.int (x1 - x1 / (100 : Int32) * (100 : Int32)))]) (st' := [.int (-1 : Int32), .int v24.1]) (by decide +kernel) rfl rfl ?_
      refine Go.ic_eq (off := 7) (tgt := 196) (by decide +kernel) (by decide) (fun c26 => ?_) (fun c26 => ?_)
      · replace e := ite_t c26 e
        refine Go.run (pc' := 197) [.iconst 0] (ls' := [some (.ref a0), some (.int x1), some (.int ((x1 / (1000 : Int32)) - (x1 / (1000 : Int32)) / (10 : Int32) * (10 : Int32))), some (.int ((x1 / (100 : Int32)) - (x1 / (100 : Int32)) / (10 : Int32) * (10 : Int32))), some (.int ((x1 / (10 : Int32)) - (x1 / (10 : Int32)) / (10 : Int32) * (10 : Int32))), some (.int (x1 - x1 / (10 : Int32) * (10 : Int32))), some (.int (x1 - x1 / (100 : Int32) * (100 : Int32)))]) (st' := [.int (0 : Int32)]) (by decide +kernel) rfl rfl ?_
        obtain rfl := Option.some.inj e
        exact Go.zret rfl nar_z0 (by decide) (by decide) (by decide +kernel)
      · replace e := ite_f c26 e
        refine Go.run (pc' := 193) [.iconst 1] (ls' := [some (.ref a0), some (.int x1), some (.int ((x1 / (1000 : Int32)) - (x1 / (1000 : Int32)) / (10 : Int32) * (10 : Int32))), some (.int ((x1 / (100 : Int32)) - (x1 / (100 : Int32)) / (10 : Int32) * (10 : Int32))), some (.int ((x1 / (10 : Int32)) - (x1 / (10 : Int32)) / (10 : Int32) * (10 : Int32))), some (.int (x1 - x1 / (10 : Int32) * (10 : Int32))), some (.int (x1 - x1 / (100 : Int32) * (100 : Int32)))]) (st' := [.int (1 : Int32)]) (by decide +kernel) rfl rfl ?_
        refine Go.goto (off := 4) (tgt := 197) (by decide +kernel) (by decide) ?_
        obtain rfl := Option.some.inj e
        exact Go.zret rfl nar_z1 (by decide) (by decide) (by decide +kernel)
  replace e := ite_f c22 e
  rcases Decidable.em ((x1 / (10000 : Int32)) = 6) with c27 | c27
  · replace e := ite_t c27 e
    refine Go.tsIn (dflt := 280) (lo := 1) (hi := 9) (offs := #[49, 66, 86, 110, 134, 155, 179, 210, 249]) (len := 49) (off := 155) (tgt := 198) 6 (by decide +kernel) (by rw [c27]; decide) (by decide) (by decide) (by decide) (by decide) ?_
    refine Go.run (pc' := 209) [.aload_n 0, .iload_n 2, .bipush (10), .iload_n 3, .imul, .iload 4, .iadd, .iload 5] (ls' := [some (.ref a0), some (.int x1), some (.int ((x1 / (1000 : Int32)) - (x1 / (1000 : Int32)) / (10 : Int32) * (10 : Int32))), some (.int ((x1 / (100 : Int32)) - (x1 / (100 : Int32)) / (10 : Int32) * (10 : Int32))), some (.int ((x1 / (10 : Int32)) - (x1 / (10 : Int32)) / (10 : Int32) * (10 : Int32))), some (.int (x1 - x1 / (10 : Int32) * (10 : Int32))), some (.int (x1 - x1 / (100 : Int32) * (100 : Int32)))]) (st' := [.int (x1 - x1 / (10 : Int32) * (10 : Int32)), .int (((10 : Int32) * ((x1 / (100 : Int32)) - (x1 / (100 : Int32)) / (10 : Int32) * (10 : Int32))) + ((x1 / (10 : Int32)) - (x1 / (10 : Int32)) / (10 : Int32) * (10 : Int32))), .int ((x1 / (1000 : Int32)) - (x1 / (1000 : Int32)) / (10 : Int32) * (10 : Int32)), .ref a0]) (by decide +kernel) rfl rfl ?_
    obtain ⟨v28, e29, e⟩ := bd_inv e
    refine Go.callV (M2 := m_A_putPlugs) (a := a0) (as := [.int ((x1 / (1000 : Int32)) - (x1 / (1000 : Int32)) / (10 : Int32) * (10 : Int32)), .int (((10 : Int32) * ((x1 / (100 : Int32)) - (x1 / (100 : Int32)) / (10 : Int32) * (10 : Int32))) + ((x1 / (10 : Int32)) - (x1 / (10 : Int32)) / (10 : Int32) * (10 : Int32))), .int (x1 - x1 / (10 : Int32) * (10 : Int32))]) (rest := []) (v := some (.int v28.1)) (h1 := v28.2) (x_A_putPlugs hf hI k0 e29) wv_C_24 k0 kc_1 (by decide +kernel) rfl rfl ⟨⟨Nat.le_of_ble_eq_true rfl, Nat.le_of_ble_eq_true rfl⟩, ⟨Nat.le_of_ble_eq_true rfl, Nat.le_of_ble_eq_true rfl⟩⟩ (Nat.le_of_ble_eq_true rfl) ?_
    show Go l D ad aC (rmk m_C_obeyGroup) _ m_C_obeyGroup 212 [some (.ref a0), some (.int x1), some (.int ((x1 / (1000 : Int32)) - (x1 / (1000 : Int32)) / (10 : Int32) * (10 : Int32))), some (.int ((x1 / (100 : Int32)) - (x1 / (100 : Int32)) / (10 : Int32) * (10 : Int32))), some (.int ((x1 / (10 : Int32)) - (x1 / (10 : Int32)) / (10 : Int32) * (10 : Int32))), some (.int (x1 - x1 / (10 : Int32) * (10 : Int32))), some (.int (x1 - x1 / (100 : Int32) * (100 : Int32)))] [.int v28.1] v28.2 0 0
    refine Go.run (pc' := 213) [.iconst (-1)] (ls' := [some (.ref a0), some (.int x1), some (.int ((x1 / (1000 : Int32)) - (x1 / (1000 : Int32)) / (10 : Int32) * (10 : Int32))), some (.int ((x1 / (100 : Int32)) - (x1 / (100 : Int32)) / (10 : Int32) * (10 : Int32))), some (.int ((x1 / (10 : Int32)) - (x1 / (10 : Int32)) / (10 : Int32) * (10 : Int32))), some (.int (x1 - x1 / (10 : Int32) * (10 : Int32))), some (.int (x1 - x1 / (100 : Int32) * (100 : Int32)))]) (st' := [.int (-1 : Int32), .int v28.1]) (by decide +kernel) rfl rfl ?_
    refine Go.ic_eq (off := 7) (tgt := 220) (by decide +kernel) (by decide) (fun c30 => ?_) (fun c30 => ?_)
    · replace e := ite_t c30 e
      refine Go.run (pc' := 221) [.iconst 0] (ls' := [some (.ref a0), some (.int x1), some (.int ((x1 / (1000 : Int32)) - (x1 / (1000 : Int32)) / (10 : Int32) * (10 : Int32))), some (.int ((x1 / (100 : Int32)) - (x1 / (100 : Int32)) / (10 : Int32) * (10 : Int32))), some (.int ((x1 / (10 : Int32)) - (x1 / (10 : Int32)) / (10 : Int32) * (10 : Int32))), some (.int (x1 - x1 / (10 : Int32) * (10 : Int32))), some (.int (x1 - x1 / (100 : Int32) * (100 : Int32)))]) (st' := [.int (0 : Int32)]) (by decide +kernel) rfl rfl ?_
      obtain rfl := Option.some.inj e
      exact Go.zret rfl nar_z0 (by decide) (by decide) (by decide +kernel)
    · replace e := ite_f c30 e
      refine Go.run (pc' := 217) [.iconst 1] (ls' := [some (.ref a0), some (.int x1), some (.int ((x1 / (1000 : Int32)) - (x1 / (1000 : Int32)) / (10 : Int32) * (10 : Int32))), some (.int ((x1 / (100 : Int32)) - (x1 / (100 : Int32)) / (10 : Int32) * (10 : Int32))), some (.int ((x1 / (10 : Int32)) - (x1 / (10 : Int32)) / (10 : Int32) * (10 : Int32))), some (.int (x1 - x1 / (10 : Int32) * (10 : Int32))), some (.int (x1 - x1 / (100 : Int32) * (100 : Int32)))]) (st' := [.int (1 : Int32)]) (by decide +kernel) rfl rfl ?_
      refine Go.goto (off := 4) (tgt := 221) (by decide +kernel) (by decide) ?_
      obtain rfl := Option.some.inj e
      exact Go.zret rfl nar_z1 (by decide) (by decide) (by decide +kernel)
  replace e := ite_f c27 e
  rcases Decidable.em ((x1 / (10000 : Int32)) = 7) with c31 | c31
  · replace e := ite_t c31 e
    refine Go.tsIn (dflt := 280) (lo := 1) (hi := 9) (offs := #[49, 66, 86, 110, 134, 155, 179, 210, 249]) (len := 49) (off := 179) (tgt := 222) 7 (by decide +kernel) (by rw [c31]; decide) (by decide) (by decide) (by decide) (by decide) ?_
    refine Go.run (pc' := 223) [.iload_n 3] (ls' := [some (.ref a0), some (.int x1), some (.int ((x1 / (1000 : Int32)) - (x1 / (1000 : Int32)) / (10 : Int32) * (10 : Int32))), some (.int ((x1 / (100 : Int32)) - (x1 / (100 : Int32)) / (10 : Int32) * (10 : Int32))), some (.int ((x1 / (10 : Int32)) - (x1 / (10 : Int32)) / (10 : Int32) * (10 : Int32))), some (.int (x1 - x1 / (10 : Int32) * (10 : Int32))), some (.int (x1 - x1 / (100 : Int32) * (100 : Int32)))]) (st' := [.int ((x1 / (100 : Int32)) - (x1 / (100 : Int32)) / (10 : Int32) * (10 : Int32))]) (by decide +kernel) rfl rfl ?_
    refine Go.if_ne (off := 28) (tgt := 251) (by decide +kernel) (by decide) (fun c32 => ?_) (fun c32 => ?_)
    · replace e := ite_f c32 e
      refine Go.run (pc' := 252) [.iconst 0] (ls' := [some (.ref a0), some (.int x1), some (.int ((x1 / (1000 : Int32)) - (x1 / (1000 : Int32)) / (10 : Int32) * (10 : Int32))), some (.int ((x1 / (100 : Int32)) - (x1 / (100 : Int32)) / (10 : Int32) * (10 : Int32))), some (.int ((x1 / (10 : Int32)) - (x1 / (10 : Int32)) / (10 : Int32) * (10 : Int32))), some (.int (x1 - x1 / (10 : Int32) * (10 : Int32))), some (.int (x1 - x1 / (100 : Int32) * (100 : Int32)))]) (st' := [.int (0 : Int32)]) (by decide +kernel) rfl rfl ?_
      obtain rfl := Option.some.inj e
      exact Go.zret rfl nar_z0 (by decide) (by decide) (by decide +kernel)
    · replace e := ite_t c32 e
      refine Go.run (pc' := 227) [.aload_n 0] (ls' := [some (.ref a0), some (.int x1), some (.int ((x1 / (1000 : Int32)) - (x1 / (1000 : Int32)) / (10 : Int32) * (10 : Int32))), some (.int ((x1 / (100 : Int32)) - (x1 / (100 : Int32)) / (10 : Int32) * (10 : Int32))), some (.int ((x1 / (10 : Int32)) - (x1 / (10 : Int32)) / (10 : Int32) * (10 : Int32))), some (.int (x1 - x1 / (10 : Int32) * (10 : Int32))), some (.int (x1 - x1 / (100 : Int32) * (100 : Int32)))]) (st' := [.ref a0]) (by decide +kernel) rfl rfl ?_
      refine Go.getR fo_C_47 k0 (by decide +kernel) ?_
      refine Go.run (pc' := 231) [.iload_n 2] (ls' := [some (.ref a0), some (.int x1), some (.int ((x1 / (1000 : Int32)) - (x1 / (1000 : Int32)) / (10 : Int32) * (10 : Int32))), some (.int ((x1 / (100 : Int32)) - (x1 / (100 : Int32)) / (10 : Int32) * (10 : Int32))), some (.int ((x1 / (10 : Int32)) - (x1 / (10 : Int32)) / (10 : Int32) * (10 : Int32))), some (.int (x1 - x1 / (10 : Int32) * (10 : Int32))), some (.int (x1 - x1 / (100 : Int32) * (100 : Int32)))]) (st' := [.int ((x1 / (1000 : Int32)) - (x1 / (1000 : Int32)) / (10 : Int32) * (10 : Int32)), .ref (fld a0 0)]) (by decide +kernel) rfl rfl ?_
      obtain ⟨v33, e34, e⟩ := bd_inv e
      refine Go.callV (M2 := m_S_hasDealer) (a := (fld a0 0)) (as := [.int ((x1 / (1000 : Int32)) - (x1 / (1000 : Int32)) / (10 : Int32) * (10 : Int32))]) (rest := []) (v := some (.int v33)) (h1 := h) (x_S_hasDealer hf hI (kf_1_0 k0) e34) wv_C_51 (kf_1_0 k0) kc_6 (by decide +kernel) rfl rfl ⟨⟨Nat.le_of_ble_eq_true rfl, Nat.le_of_ble_eq_true rfl⟩, ⟨Nat.le_of_ble_eq_true rfl, Nat.le_of_ble_eq_true rfl⟩⟩ (Nat.le_of_ble_eq_true rfl) ?_
      show Go l D ad aC (rmk m_C_obeyGroup) _ m_C_obeyGroup 234 [some (.ref a0), some (.int x1), some (.int ((x1 / (1000 : Int32)) - (x1 / (1000 : Int32)) / (10 : Int32) * (10 : Int32))), some (.int ((x1 / (100 : Int32)) - (x1 / (100 : Int32)) / (10 : Int32) * (10 : Int32))), some (.int ((x1 / (10 : Int32)) - (x1 / (10 : Int32)) / (10 : Int32) * (10 : Int32))), some (.int (x1 - x1 / (10 : Int32) * (10 : Int32))), some (.int (x1 - x1 / (100 : Int32) * (100 : Int32)))] [.int v33] h 0 0
      refine Go.if_eq (off := 17) (tgt := 251) (by decide +kernel) (by decide) (fun c35 => ?_) (fun c35 => ?_)
      · replace e := ite_t c35 e
        refine Go.run (pc' := 252) [.iconst 0] (ls' := [some (.ref a0), some (.int x1), some (.int ((x1 / (1000 : Int32)) - (x1 / (1000 : Int32)) / (10 : Int32) * (10 : Int32))), some (.int ((x1 / (100 : Int32)) - (x1 / (100 : Int32)) / (10 : Int32) * (10 : Int32))), some (.int ((x1 / (10 : Int32)) - (x1 / (10 : Int32)) / (10 : Int32) * (10 : Int32))), some (.int (x1 - x1 / (10 : Int32) * (10 : Int32))), some (.int (x1 - x1 / (100 : Int32) * (100 : Int32)))]) (st' := [.int (0 : Int32)]) (by decide +kernel) rfl rfl ?_
        obtain rfl := Option.some.inj e
        exact Go.zret rfl nar_z0 (by decide) (by decide) (by decide +kernel)
      · replace e := ite_f c35 e
        refine Go.run (pc' := 239) [.aload_n 0, .iload_n 2] (ls' := [some (.ref a0), some (.int x1), some (.int ((x1 / (1000 : Int32)) - (x1 / (1000 : Int32)) / (10 : Int32) * (10 : Int32))), some (.int ((x1 / (100 : Int32)) - (x1 / (100 : Int32)) / (10 : Int32) * (10 : Int32))), some (.int ((x1 / (10 : Int32)) - (x1 / (10 : Int32)) / (10 : Int32) * (10 : Int32))), some (.int (x1 - x1 / (10 : Int32) * (10 : Int32))), some (.int (x1 - x1 / (100 : Int32) * (100 : Int32)))]) (st' := [.int ((x1 / (1000 : Int32)) - (x1 / (1000 : Int32)) / (10 : Int32) * (10 : Int32)), .ref a0]) (by decide +kernel) rfl rfl ?_
        obtain ⟨v36, e37, e⟩ := bd_inv e
        refine Go.callV (M2 := m_A_rentOf) (a := a0) (as := [.int ((x1 / (1000 : Int32)) - (x1 / (1000 : Int32)) / (10 : Int32) * (10 : Int32))]) (rest := []) (v := some (.int v36)) (h1 := h) (x_A_rentOf hf hI k0 e37) wv_C_57 k0 kc_1 (by decide +kernel) rfl rfl ⟨⟨Nat.le_of_ble_eq_true rfl, Nat.le_of_ble_eq_true rfl⟩, ⟨Nat.le_of_ble_eq_true rfl, Nat.le_of_ble_eq_true rfl⟩⟩ (Nat.le_of_ble_eq_true rfl) ?_
        show Go l D ad aC (rmk m_C_obeyGroup) _ m_C_obeyGroup 242 [some (.ref a0), some (.int x1), some (.int ((x1 / (1000 : Int32)) - (x1 / (1000 : Int32)) / (10 : Int32) * (10 : Int32))), some (.int ((x1 / (100 : Int32)) - (x1 / (100 : Int32)) / (10 : Int32) * (10 : Int32))), some (.int ((x1 / (10 : Int32)) - (x1 / (10 : Int32)) / (10 : Int32) * (10 : Int32))), some (.int (x1 - x1 / (10 : Int32) * (10 : Int32))), some (.int (x1 - x1 / (100 : Int32) * (100 : Int32)))] [.int v36] h 0 0
        refine Go.run (pc' := 244) [.iload 6] (ls' := [some (.ref a0), some (.int x1), some (.int ((x1 / (1000 : Int32)) - (x1 / (1000 : Int32)) / (10 : Int32) * (10 : Int32))), some (.int ((x1 / (100 : Int32)) - (x1 / (100 : Int32)) / (10 : Int32) * (10 : Int32))), some (.int ((x1 / (10 : Int32)) - (x1 / (10 : Int32)) / (10 : Int32) * (10 : Int32))), some (.int (x1 - x1 / (10 : Int32) * (10 : Int32))), some (.int (x1 - x1 / (100 : Int32) * (100 : Int32)))]) (st' := [.int (x1 - x1 / (100 : Int32) * (100 : Int32)), .int v36]) (by decide +kernel) rfl rfl ?_
        refine Go.ic_gt (off := 7) (tgt := 251) (by decide +kernel) (by decide) (fun c38 => ?_) (fun c38 => ?_)
        · replace e := ite_t c38 e
          refine Go.run (pc' := 252) [.iconst 0] (ls' := [some (.ref a0), some (.int x1), some (.int ((x1 / (1000 : Int32)) - (x1 / (1000 : Int32)) / (10 : Int32) * (10 : Int32))), some (.int ((x1 / (100 : Int32)) - (x1 / (100 : Int32)) / (10 : Int32) * (10 : Int32))), some (.int ((x1 / (10 : Int32)) - (x1 / (10 : Int32)) / (10 : Int32) * (10 : Int32))), some (.int (x1 - x1 / (10 : Int32) * (10 : Int32))), some (.int (x1 - x1 / (100 : Int32) * (100 : Int32)))]) (st' := [.int (0 : Int32)]) (by decide +kernel) rfl rfl ?_
          obtain rfl := Option.some.inj e
          exact Go.zret rfl nar_z0 (by decide) (by decide) (by decide +kernel)
        · replace e := ite_f c38 e
          refine Go.run (pc' := 248) [.iconst 1] (ls' := [some (.ref a0), some (.int x1), some (.int ((x1 / (1000 : Int32)) - (x1 / (1000 : Int32)) / (10 : Int32) * (10 : Int32))), some (.int ((x1 / (100 : Int32)) - (x1 / (100 : Int32)) / (10 : Int32) * (10 : Int32))), some (.int ((x1 / (10 : Int32)) - (x1 / (10 : Int32)) / (10 : Int32) * (10 : Int32))), some (.int (x1 - x1 / (10 : Int32) * (10 : Int32))), some (.int (x1 - x1 / (100 : Int32) * (100 : Int32)))]) (st' := [.int (1 : Int32)]) (by decide +kernel) rfl rfl ?_
          refine Go.goto (off := 4) (tgt := 252) (by decide +kernel) (by decide) ?_
          obtain rfl := Option.some.inj e
          exact Go.zret rfl nar_z1 (by decide) (by decide) (by decide +kernel)
  replace e := ite_f c31 e
  rcases Decidable.em ((x1 / (10000 : Int32)) = 8) with c39 | c39
  · replace e := ite_t c39 e
    refine Go.tsIn (dflt := 280) (lo := 1) (hi := 9) (offs := #[49, 66, 86, 110, 134, 155, 179, 210, 249]) (len := 49) (off := 210) (tgt := 253) 8 (by decide +kernel) (by rw [c39]; decide) (by decide) (by decide) (by decide) (by decide) ?_
    refine Go.run (pc' := 254) [.iload_n 3] (ls' := [some (.ref a0), some (.int x1), some (.int ((x1 / (1000 : Int32)) - (x1 / (1000 : Int32)) / (10 : Int32) * (10 : Int32))), some (.int ((x1 / (100 : Int32)) - (x1 / (100 : Int32)) / (10 : Int32) * (10 : Int32))), some (.int ((x1 / (10 : Int32)) - (x1 / (10 : Int32)) / (10 : Int32) * (10 : Int32))), some (.int (x1 - x1 / (10 : Int32) * (10 : Int32))), some (.int (x1 - x1 / (100 : Int32) * (100 : Int32)))]) (st' := [.int ((x1 / (100 : Int32)) - (x1 / (100 : Int32)) / (10 : Int32) * (10 : Int32))]) (by decide +kernel) rfl rfl ?_
    refine Go.if_ne (off := 36) (tgt := 290) (by decide +kernel) (by decide) (fun c40 => ?_) (fun c40 => ?_)
    · replace e := ite_f c40 e
      refine Go.run (pc' := 291) [.iconst 0] (ls' := [some (.ref a0), some (.int x1), some (.int ((x1 / (1000 : Int32)) - (x1 / (1000 : Int32)) / (10 : Int32) * (10 : Int32))), some (.int ((x1 / (100 : Int32)) - (x1 / (100 : Int32)) / (10 : Int32) * (10 : Int32))), some (.int ((x1 / (10 : Int32)) - (x1 / (10 : Int32)) / (10 : Int32) * (10 : Int32))), some (.int (x1 - x1 / (10 : Int32) * (10 : Int32))), some (.int (x1 - x1 / (100 : Int32) * (100 : Int32)))]) (st' := [.int (0 : Int32)]) (by decide +kernel) rfl rfl ?_
      obtain rfl := Option.some.inj e
      exact Go.zret rfl nar_z0 (by decide) (by decide) (by decide +kernel)
    · replace e := ite_t c40 e
      refine Go.run (pc' := 259) [.iload 4] (ls' := [some (.ref a0), some (.int x1), some (.int ((x1 / (1000 : Int32)) - (x1 / (1000 : Int32)) / (10 : Int32) * (10 : Int32))), some (.int ((x1 / (100 : Int32)) - (x1 / (100 : Int32)) / (10 : Int32) * (10 : Int32))), some (.int ((x1 / (10 : Int32)) - (x1 / (10 : Int32)) / (10 : Int32) * (10 : Int32))), some (.int (x1 - x1 / (10 : Int32) * (10 : Int32))), some (.int (x1 - x1 / (100 : Int32) * (100 : Int32)))]) (st' := [.int ((x1 / (10 : Int32)) - (x1 / (10 : Int32)) / (10 : Int32) * (10 : Int32))]) (by decide +kernel) rfl rfl ?_
      refine Go.if_ne (off := 31) (tgt := 290) (by decide +kernel) (by decide) (fun c41 => ?_) (fun c41 => ?_)
      · replace e := ite_f c41 e
        refine Go.run (pc' := 291) [.iconst 0] (ls' := [some (.ref a0), some (.int x1), some (.int ((x1 / (1000 : Int32)) - (x1 / (1000 : Int32)) / (10 : Int32) * (10 : Int32))), some (.int ((x1 / (100 : Int32)) - (x1 / (100 : Int32)) / (10 : Int32) * (10 : Int32))), some (.int ((x1 / (10 : Int32)) - (x1 / (10 : Int32)) / (10 : Int32) * (10 : Int32))), some (.int (x1 - x1 / (10 : Int32) * (10 : Int32))), some (.int (x1 - x1 / (100 : Int32) * (100 : Int32)))]) (st' := [.int (0 : Int32)]) (by decide +kernel) rfl rfl ?_
        obtain rfl := Option.some.inj e
        exact Go.zret rfl nar_z0 (by decide) (by decide) (by decide +kernel)
      · replace e := ite_t c41 e
        refine Go.run (pc' := 263) [.aload_n 0] (ls' := [some (.ref a0), some (.int x1), some (.int ((x1 / (1000 : Int32)) - (x1 / (1000 : Int32)) / (10 : Int32) * (10 : Int32))), some (.int ((x1 / (100 : Int32)) - (x1 / (100 : Int32)) / (10 : Int32) * (10 : Int32))), some (.int ((x1 / (10 : Int32)) - (x1 / (10 : Int32)) / (10 : Int32) * (10 : Int32))), some (.int (x1 - x1 / (10 : Int32) * (10 : Int32))), some (.int (x1 - x1 / (100 : Int32) * (100 : Int32)))]) (st' := [.ref a0]) (by decide +kernel) rfl rfl ?_
        refine Go.getR fo_C_47 k0 (by decide +kernel) ?_
        refine Go.run (pc' := 267) [.iload_n 2] (ls' := [some (.ref a0), some (.int x1), some (.int ((x1 / (1000 : Int32)) - (x1 / (1000 : Int32)) / (10 : Int32) * (10 : Int32))), some (.int ((x1 / (100 : Int32)) - (x1 / (100 : Int32)) / (10 : Int32) * (10 : Int32))), some (.int ((x1 / (10 : Int32)) - (x1 / (10 : Int32)) / (10 : Int32) * (10 : Int32))), some (.int (x1 - x1 / (10 : Int32) * (10 : Int32))), some (.int (x1 - x1 / (100 : Int32) * (100 : Int32)))]) (st' := [.int ((x1 / (1000 : Int32)) - (x1 / (1000 : Int32)) / (10 : Int32) * (10 : Int32)), .ref (fld a0 0)]) (by decide +kernel) rfl rfl ?_
        obtain ⟨v42, e43, e⟩ := bd_inv e
        refine Go.callV (M2 := m_S_hasDealer) (a := (fld a0 0)) (as := [.int ((x1 / (1000 : Int32)) - (x1 / (1000 : Int32)) / (10 : Int32) * (10 : Int32))]) (rest := []) (v := some (.int v42)) (h1 := h) (x_S_hasDealer hf hI (kf_1_0 k0) e43) wv_C_51 (kf_1_0 k0) kc_6 (by decide +kernel) rfl rfl ⟨⟨Nat.le_of_ble_eq_true rfl, Nat.le_of_ble_eq_true rfl⟩, ⟨Nat.le_of_ble_eq_true rfl, Nat.le_of_ble_eq_true rfl⟩⟩ (Nat.le_of_ble_eq_true rfl) ?_
        show Go l D ad aC (rmk m_C_obeyGroup) _ m_C_obeyGroup 270 [some (.ref a0), some (.int x1), some (.int ((x1 / (1000 : Int32)) - (x1 / (1000 : Int32)) / (10 : Int32) * (10 : Int32))), some (.int ((x1 / (100 : Int32)) - (x1 / (100 : Int32)) / (10 : Int32) * (10 : Int32))), some (.int ((x1 / (10 : Int32)) - (x1 / (10 : Int32)) / (10 : Int32) * (10 : Int32))), some (.int (x1 - x1 / (10 : Int32) * (10 : Int32))), some (.int (x1 - x1 / (100 : Int32) * (100 : Int32)))] [.int v42] h 0 0
        refine Go.if_eq (off := 20) (tgt := 290) (by decide +kernel) (by decide) (fun c44 => ?_) (fun c44 => ?_)
        · replace e := ite_t c44 e
          refine Go.run (pc' := 291) [.iconst 0] (ls' := [some (.ref a0), some (.int x1), some (.int ((x1 / (1000 : Int32)) - (x1 / (1000 : Int32)) / (10 : Int32) * (10 : Int32))), some (.int ((x1 / (100 : Int32)) - (x1 / (100 : Int32)) / (10 : Int32) * (10 : Int32))), some (.int ((x1 / (10 : Int32)) - (x1 / (10 : Int32)) / (10 : Int32) * (10 : Int32))), some (.int (x1 - x1 / (10 : Int32) * (10 : Int32))), some (.int (x1 - x1 / (100 : Int32) * (100 : Int32)))]) (st' := [.int (0 : Int32)]) (by decide +kernel) rfl rfl ?_
          obtain rfl := Option.some.inj e
          exact Go.zret rfl nar_z0 (by decide) (by decide) (by decide +kernel)
        · replace e := ite_f c44 e
          refine Go.run (pc' := 274) [.aload_n 0] (ls' := [some (.ref a0), some (.int x1), some (.int ((x1 / (1000 : Int32)) - (x1 / (1000 : Int32)) / (10 : Int32) * (10 : Int32))), some (.int ((x1 / (100 : Int32)) - (x1 / (100 : Int32)) / (10 : Int32) * (10 : Int32))), some (.int ((x1 / (10 : Int32)) - (x1 / (10 : Int32)) / (10 : Int32) * (10 : Int32))), some (.int (x1 - x1 / (10 : Int32) * (10 : Int32))), some (.int (x1 - x1 / (100 : Int32) * (100 : Int32)))]) (st' := [.ref a0]) (by decide +kernel) rfl rfl ?_
          refine Go.getR fo_C_60 k0 (by decide +kernel) ?_
          refine Go.run (pc' := 278) [.iload_n 2] (ls' := [some (.ref a0), some (.int x1), some (.int ((x1 / (1000 : Int32)) - (x1 / (1000 : Int32)) / (10 : Int32) * (10 : Int32))), some (.int ((x1 / (100 : Int32)) - (x1 / (100 : Int32)) / (10 : Int32) * (10 : Int32))), some (.int ((x1 / (10 : Int32)) - (x1 / (10 : Int32)) / (10 : Int32) * (10 : Int32))), some (.int (x1 - x1 / (10 : Int32) * (10 : Int32))), some (.int (x1 - x1 / (100 : Int32) * (100 : Int32)))]) (st' := [.int ((x1 / (1000 : Int32)) - (x1 / (1000 : Int32)) / (10 : Int32) * (10 : Int32)), .ref (fld a0 1)]) (by decide +kernel) rfl rfl ?_
          obtain ⟨v45, e46, e⟩ := bd_inv e
          refine Go.callV (M2 := m_W_plugsHad) (a := (fld a0 1)) (as := [.int ((x1 / (1000 : Int32)) - (x1 / (1000 : Int32)) / (10 : Int32) * (10 : Int32))]) (rest := []) (v := some (.int v45)) (h1 := h) (x_W_plugsHad hf hI (kf_1_1 k0) e46) wv_C_64 (kf_1_1 k0) kc_4 (by decide +kernel) rfl rfl ⟨⟨Nat.le_of_ble_eq_true rfl, Nat.le_of_ble_eq_true rfl⟩, ⟨Nat.le_of_ble_eq_true rfl, Nat.le_of_ble_eq_true rfl⟩⟩ (Nat.le_of_ble_eq_true rfl) ?_
          show Go l D ad aC (rmk m_C_obeyGroup) _ m_C_obeyGroup 281 [some (.ref a0), some (.int x1), some (.int ((x1 / (1000 : Int32)) - (x1 / (1000 : Int32)) / (10 : Int32) * (10 : Int32))), some (.int ((x1 / (100 : Int32)) - (x1 / (100 : Int32)) / (10 : Int32) * (10 : Int32))), some (.int ((x1 / (10 : Int32)) - (x1 / (10 : Int32)) / (10 : Int32) * (10 : Int32))), some (.int (x1 - x1 / (10 : Int32) * (10 : Int32))), some (.int (x1 - x1 / (100 : Int32) * (100 : Int32)))] [.int v45] h 0 0
          refine Go.run (pc' := 283) [.iload 5] (ls' := [some (.ref a0), some (.int x1), some (.int ((x1 / (1000 : Int32)) - (x1 / (1000 : Int32)) / (10 : Int32) * (10 : Int32))), some (.int ((x1 / (100 : Int32)) - (x1 / (100 : Int32)) / (10 : Int32) * (10 : Int32))), some (.int ((x1 / (10 : Int32)) - (x1 / (10 : Int32)) / (10 : Int32) * (10 : Int32))), some (.int (x1 - x1 / (10 : Int32) * (10 : Int32))), some (.int (x1 - x1 / (100 : Int32) * (100 : Int32)))]) (st' := [.int (x1 - x1 / (10 : Int32) * (10 : Int32)), .int v45]) (by decide +kernel) rfl rfl ?_
          refine Go.ic_lt (off := 7) (tgt := 290) (by decide +kernel) (by decide) (fun c47 => ?_) (fun c47 => ?_)
          · replace e := ite_t c47 e
            refine Go.run (pc' := 291) [.iconst 0] (ls' := [some (.ref a0), some (.int x1), some (.int ((x1 / (1000 : Int32)) - (x1 / (1000 : Int32)) / (10 : Int32) * (10 : Int32))), some (.int ((x1 / (100 : Int32)) - (x1 / (100 : Int32)) / (10 : Int32) * (10 : Int32))), some (.int ((x1 / (10 : Int32)) - (x1 / (10 : Int32)) / (10 : Int32) * (10 : Int32))), some (.int (x1 - x1 / (10 : Int32) * (10 : Int32))), some (.int (x1 - x1 / (100 : Int32) * (100 : Int32)))]) (st' := [.int (0 : Int32)]) (by decide +kernel) rfl rfl ?_
            obtain rfl := Option.some.inj e
            exact Go.zret rfl nar_z0 (by decide) (by decide) (by decide +kernel)
          · replace e := ite_f c47 e
            refine Go.run (pc' := 287) [.iconst 1] (ls' := [some (.ref a0), some (.int x1), some (.int ((x1 / (1000 : Int32)) - (x1 / (1000 : Int32)) / (10 : Int32) * (10 : Int32))), some (.int ((x1 / (100 : Int32)) - (x1 / (100 : Int32)) / (10 : Int32) * (10 : Int32))), some (.int ((x1 / (10 : Int32)) - (x1 / (10 : Int32)) / (10 : Int32) * (10 : Int32))), some (.int (x1 - x1 / (10 : Int32) * (10 : Int32))), some (.int (x1 - x1 / (100 : Int32) * (100 : Int32)))]) (st' := [.int (1 : Int32)]) (by decide +kernel) rfl rfl ?_
            refine Go.goto (off := 4) (tgt := 291) (by decide +kernel) (by decide) ?_
            obtain rfl := Option.some.inj e
            exact Go.zret rfl nar_z1 (by decide) (by decide) (by decide +kernel)
  replace e := ite_f c39 e
  rcases Decidable.em ((x1 / (10000 : Int32)) = 9) with c48 | c48
  · replace e := ite_t c48 e
    refine Go.tsIn (dflt := 280) (lo := 1) (hi := 9) (offs := #[49, 66, 86, 110, 134, 155, 179, 210, 249]) (len := 49) (off := 249) (tgt := 292) 9 (by decide +kernel) (by rw [c48]; decide) (by decide) (by decide) (by decide) (by decide) ?_
    refine Go.run (pc' := 293) [.iload_n 3] (ls' := [some (.ref a0), some (.int x1), some (.int ((x1 / (1000 : Int32)) - (x1 / (1000 : Int32)) / (10 : Int32) * (10 : Int32))), some (.int ((x1 / (100 : Int32)) - (x1 / (100 : Int32)) / (10 : Int32) * (10 : Int32))), some (.int ((x1 / (10 : Int32)) - (x1 / (10 : Int32)) / (10 : Int32) * (10 : Int32))), some (.int (x1 - x1 / (10 : Int32) * (10 : Int32))), some (.int (x1 - x1 / (100 : Int32) * (100 : Int32)))]) (st' := [.int ((x1 / (100 : Int32)) - (x1 / (100 : Int32)) / (10 : Int32) * (10 : Int32))]) (by decide +kernel) rfl rfl ?_
    refine Go.if_ne (off := 28) (tgt := 321) (by decide +kernel) (by decide) (fun c49 => ?_) (fun c49 => ?_)
    · replace e := ite_f c49 e
      refine Go.run (pc' := 322) [.iconst 0] (ls' := [some (.ref a0), some (.int x1), some (.int ((x1 / (1000 : Int32)) - (x1 / (1000 : Int32)) / (10 : Int32) * (10 : Int32))), some (.int ((x1 / (100 : Int32)) - (x1 / (100 : Int32)) / (10 : Int32) * (10 : Int32))), some (.int ((x1 / (10 : Int32)) - (x1 / (10 : Int32)) / (10 : Int32) * (10 : Int32))), some (.int (x1 - x1 / (10 : Int32) * (10 : Int32))), some (.int (x1 - x1 / (100 : Int32) * (100 : Int32)))]) (st' := [.int (0 : Int32)]) (by decide +kernel) rfl rfl ?_
      obtain rfl := Option.some.inj e
      exact Go.zret rfl nar_z0 (by decide) (by decide) (by decide +kernel)
    · replace e := ite_t c49 e
      refine Go.run (pc' := 297) [.aload_n 0] (ls' := [some (.ref a0), some (.int x1), some (.int ((x1 / (1000 : Int32)) - (x1 / (1000 : Int32)) / (10 : Int32) * (10 : Int32))), some (.int ((x1 / (100 : Int32)) - (x1 / (100 : Int32)) / (10 : Int32) * (10 : Int32))), some (.int ((x1 / (10 : Int32)) - (x1 / (10 : Int32)) / (10 : Int32) * (10 : Int32))), some (.int (x1 - x1 / (10 : Int32) * (10 : Int32))), some (.int (x1 - x1 / (100 : Int32) * (100 : Int32)))]) (st' := [.ref a0]) (by decide +kernel) rfl rfl ?_
      refine Go.getR fo_C_47 k0 (by decide +kernel) ?_
      refine Go.run (pc' := 301) [.iload_n 2] (ls' := [some (.ref a0), some (.int x1), some (.int ((x1 / (1000 : Int32)) - (x1 / (1000 : Int32)) / (10 : Int32) * (10 : Int32))), some (.int ((x1 / (100 : Int32)) - (x1 / (100 : Int32)) / (10 : Int32) * (10 : Int32))), some (.int ((x1 / (10 : Int32)) - (x1 / (10 : Int32)) / (10 : Int32) * (10 : Int32))), some (.int (x1 - x1 / (10 : Int32) * (10 : Int32))), some (.int (x1 - x1 / (100 : Int32) * (100 : Int32)))]) (st' := [.int ((x1 / (1000 : Int32)) - (x1 / (1000 : Int32)) / (10 : Int32) * (10 : Int32)), .ref (fld a0 0)]) (by decide +kernel) rfl rfl ?_
      obtain ⟨v50, e51, e⟩ := bd_inv e
      refine Go.callV (M2 := m_S_hasWall) (a := (fld a0 0)) (as := [.int ((x1 / (1000 : Int32)) - (x1 / (1000 : Int32)) / (10 : Int32) * (10 : Int32))]) (rest := []) (v := some (.int v50)) (h1 := h) (x_S_hasWall hf hI (kf_1_0 k0) e51) wv_C_69 (kf_1_0 k0) kc_6 (by decide +kernel) rfl rfl ⟨⟨Nat.le_of_ble_eq_true rfl, Nat.le_of_ble_eq_true rfl⟩, ⟨Nat.le_of_ble_eq_true rfl, Nat.le_of_ble_eq_true rfl⟩⟩ (Nat.le_of_ble_eq_true rfl) ?_
      show Go l D ad aC (rmk m_C_obeyGroup) _ m_C_obeyGroup 304 [some (.ref a0), some (.int x1), some (.int ((x1 / (1000 : Int32)) - (x1 / (1000 : Int32)) / (10 : Int32) * (10 : Int32))), some (.int ((x1 / (100 : Int32)) - (x1 / (100 : Int32)) / (10 : Int32) * (10 : Int32))), some (.int ((x1 / (10 : Int32)) - (x1 / (10 : Int32)) / (10 : Int32) * (10 : Int32))), some (.int (x1 - x1 / (10 : Int32) * (10 : Int32))), some (.int (x1 - x1 / (100 : Int32) * (100 : Int32)))] [.int v50] h 0 0
      refine Go.if_eq (off := 17) (tgt := 321) (by decide +kernel) (by decide) (fun c52 => ?_) (fun c52 => ?_)
      · replace e := ite_t c52 e
        refine Go.run (pc' := 322) [.iconst 0] (ls' := [some (.ref a0), some (.int x1), some (.int ((x1 / (1000 : Int32)) - (x1 / (1000 : Int32)) / (10 : Int32) * (10 : Int32))), some (.int ((x1 / (100 : Int32)) - (x1 / (100 : Int32)) / (10 : Int32) * (10 : Int32))), some (.int ((x1 / (10 : Int32)) - (x1 / (10 : Int32)) / (10 : Int32) * (10 : Int32))), some (.int (x1 - x1 / (10 : Int32) * (10 : Int32))), some (.int (x1 - x1 / (100 : Int32) * (100 : Int32)))]) (st' := [.int (0 : Int32)]) (by decide +kernel) rfl rfl ?_
        obtain rfl := Option.some.inj e
        exact Go.zret rfl nar_z0 (by decide) (by decide) (by decide +kernel)
      · replace e := ite_f c52 e
        refine Go.run (pc' := 309) [.aload_n 0, .iload_n 2] (ls' := [some (.ref a0), some (.int x1), some (.int ((x1 / (1000 : Int32)) - (x1 / (1000 : Int32)) / (10 : Int32) * (10 : Int32))), some (.int ((x1 / (100 : Int32)) - (x1 / (100 : Int32)) / (10 : Int32) * (10 : Int32))), some (.int ((x1 / (10 : Int32)) - (x1 / (10 : Int32)) / (10 : Int32) * (10 : Int32))), some (.int (x1 - x1 / (10 : Int32) * (10 : Int32))), some (.int (x1 - x1 / (100 : Int32) * (100 : Int32)))]) (st' := [.int ((x1 / (1000 : Int32)) - (x1 / (1000 : Int32)) / (10 : Int32) * (10 : Int32)), .ref a0]) (by decide +kernel) rfl rfl ?_
        obtain ⟨v53, e54, e⟩ := bd_inv e
        refine Go.callV (M2 := m_A_freeByMetres) (a := a0) (as := [.int ((x1 / (1000 : Int32)) - (x1 / (1000 : Int32)) / (10 : Int32) * (10 : Int32))]) (rest := []) (v := some (.int v53)) (h1 := h) (x_A_freeByMetres hf hI k0 e54) wv_C_72 k0 kc_1 (by decide +kernel) rfl rfl ⟨⟨Nat.le_of_ble_eq_true rfl, Nat.le_of_ble_eq_true rfl⟩, ⟨Nat.le_of_ble_eq_true rfl, Nat.le_of_ble_eq_true rfl⟩⟩ (Nat.le_of_ble_eq_true rfl) ?_
        show Go l D ad aC (rmk m_C_obeyGroup) _ m_C_obeyGroup 312 [some (.ref a0), some (.int x1), some (.int ((x1 / (1000 : Int32)) - (x1 / (1000 : Int32)) / (10 : Int32) * (10 : Int32))), some (.int ((x1 / (100 : Int32)) - (x1 / (100 : Int32)) / (10 : Int32) * (10 : Int32))), some (.int ((x1 / (10 : Int32)) - (x1 / (10 : Int32)) / (10 : Int32) * (10 : Int32))), some (.int (x1 - x1 / (10 : Int32) * (10 : Int32))), some (.int (x1 - x1 / (100 : Int32) * (100 : Int32)))] [.int v53] h 0 0
        refine Go.run (pc' := 314) [.iload 6] (ls' := [some (.ref a0), some (.int x1), some (.int ((x1 / (1000 : Int32)) - (x1 / (1000 : Int32)) / (10 : Int32) * (10 : Int32))), some (.int ((x1 / (100 : Int32)) - (x1 / (100 : Int32)) / (10 : Int32) * (10 : Int32))), some (.int ((x1 / (10 : Int32)) - (x1 / (10 : Int32)) / (10 : Int32) * (10 : Int32))), some (.int (x1 - x1 / (10 : Int32) * (10 : Int32))), some (.int (x1 - x1 / (100 : Int32) * (100 : Int32)))]) (st' := [.int (x1 - x1 / (100 : Int32) * (100 : Int32)), .int v53]) (by decide +kernel) rfl rfl ?_
        refine Go.ic_lt (off := 7) (tgt := 321) (by decide +kernel) (by decide) (fun c55 => ?_) (fun c55 => ?_)
        · replace e := ite_t c55 e
          refine Go.run (pc' := 322) [.iconst 0] (ls' := [some (.ref a0), some (.int x1), some (.int ((x1 / (1000 : Int32)) - (x1 / (1000 : Int32)) / (10 : Int32) * (10 : Int32))), some (.int ((x1 / (100 : Int32)) - (x1 / (100 : Int32)) / (10 : Int32) * (10 : Int32))), some (.int ((x1 / (10 : Int32)) - (x1 / (10 : Int32)) / (10 : Int32) * (10 : Int32))), some (.int (x1 - x1 / (10 : Int32) * (10 : Int32))), some (.int (x1 - x1 / (100 : Int32) * (100 : Int32)))]) (st' := [.int (0 : Int32)]) (by decide +kernel) rfl rfl ?_
          obtain rfl := Option.some.inj e
          exact Go.zret rfl nar_z0 (by decide) (by decide) (by decide +kernel)
        · replace e := ite_f c55 e
          refine Go.run (pc' := 318) [.iconst 1] (ls' := [some (.ref a0), some (.int x1), some (.int ((x1 / (1000 : Int32)) - (x1 / (1000 : Int32)) / (10 : Int32) * (10 : Int32))), some (.int ((x1 / (100 : Int32)) - (x1 / (100 : Int32)) / (10 : Int32) * (10 : Int32))), some (.int ((x1 / (10 : Int32)) - (x1 / (10 : Int32)) / (10 : Int32) * (10 : Int32))), some (.int (x1 - x1 / (10 : Int32) * (10 : Int32))), some (.int (x1 - x1 / (100 : Int32) * (100 : Int32)))]) (st' := [.int (1 : Int32)]) (by decide +kernel) rfl rfl ?_
          refine Go.goto (off := 4) (tgt := 322) (by decide +kernel) (by decide) ?_
          obtain rfl := Option.some.inj e
          exact Go.zret rfl nar_z1 (by decide) (by decide) (by decide +kernel)
  replace e := ite_f c48 e
  refine Go.tsOut (dflt := 280) (lo := 1) (hi := 9) (offs := #[49, 66, 86, 110, 134, 155, 179, 210, 249]) (len := 49) (tgt := 323) (by decide +kernel) (by have zc1 := lv_neT c1 (a := 1) rfl; have zc5 := lv_neT c5 (a := 2) rfl; have zc10 := lv_neT c10 (a := 3) rfl; have zc16 := lv_neT c16 (a := 4) rfl; have zc22 := lv_neT c22 (a := 5) rfl; have zc27 := lv_neT c27 (a := 6) rfl; have zc31 := lv_neT c31 (a := 7) rfl; have zc39 := lv_neT c39 (a := 8) rfl; have zc48 := lv_neT c48 (a := 9) rfl; omega) (by decide) ?_
  refine Go.run (pc' := 324) [.iconst 0] (ls' := [some (.ref a0), some (.int x1), some (.int ((x1 / (1000 : Int32)) - (x1 / (1000 : Int32)) / (10 : Int32) * (10 : Int32))), some (.int ((x1 / (100 : Int32)) - (x1 / (100 : Int32)) / (10 : Int32) * (10 : Int32))), some (.int ((x1 / (10 : Int32)) - (x1 / (10 : Int32)) / (10 : Int32) * (10 : Int32))), some (.int (x1 - x1 / (10 : Int32) * (10 : Int32))), some (.int (x1 - x1 / (100 : Int32) * (100 : Int32)))]) (st' := [.int (0 : Int32)]) (by decide +kernel) rfl rfl ?_
  obtain rfl := Option.some.inj e
  exact Go.zret rfl nar_z0 (by decide) (by decide) (by decide +kernel)
def f_C_takeTurn (h : HP) (a0 : Nat) (x1 : Int32) : Option (HP) :=
  if (x1 - x1 / (16 : Int32) * (16 : Int32)) = 0 then
    (f_A_openWall h a0 ((4 : Int32) + ((x1 / (16 : Int32)) - (x1 / (16 : Int32)) / (27 : Int32) * (27 : Int32)))).bind fun v2 =>
    some v2.2
  else
    if (x1 - x1 / (16 : Int32) * (16 : Int32)) = 1 then
      (f_A_putPlugs h a0 ((x1 / (16 : Int32)) - (x1 / (16 : Int32)) / (4 : Int32) * (4 : Int32)) (((x1 / (16 : Int32)) / (4 : Int32)) - ((x1 / (16 : Int32)) / (4 : Int32)) / (30 : Int32) * (30 : Int32)) (((x1 / (16 : Int32)) / (128 : Int32)) - ((x1 / (16 : Int32)) / (128 : Int32)) / (5 : Int32) * (5 : Int32))).bind fun v5 =>
      some v5.2
    else
      if (x1 - x1 / (16 : Int32) * (16 : Int32)) = 2 then
        (f_A_putPlugs h a0 ((x1 / (16 : Int32)) - (x1 / (16 : Int32)) / (4 : Int32) * (4 : Int32)) (((x1 / (16 : Int32)) / (4 : Int32)) - ((x1 / (16 : Int32)) / (4 : Int32)) / (30 : Int32) * (30 : Int32)) (((x1 / (16 : Int32)) / (128 : Int32)) - ((x1 / (16 : Int32)) / (128 : Int32)) / (5 : Int32) * (5 : Int32))).bind fun v8 =>
        some v8.2
      else
        if (x1 - x1 / (16 : Int32) * (16 : Int32)) = 3 then
          (f_A_admit h a0 ((x1 / (16 : Int32)) - (x1 / (16 : Int32)) / (6 : Int32) * (6 : Int32)) ((1 : Int32) + (((x1 / (16 : Int32)) / (8 : Int32)) - ((x1 / (16 : Int32)) / (8 : Int32)) / (9 : Int32) * (9 : Int32))) (((x1 / (16 : Int32)) / (128 : Int32)) - ((x1 / (16 : Int32)) / (128 : Int32)) / (4 : Int32) * (4 : Int32))).bind fun v11 =>
          some v11.2
        else
          if (x1 - x1 / (16 : Int32) * (16 : Int32)) = 4 then
            (f_A_admit h a0 ((x1 / (16 : Int32)) - (x1 / (16 : Int32)) / (6 : Int32) * (6 : Int32)) ((1 : Int32) + (((x1 / (16 : Int32)) / (8 : Int32)) - ((x1 / (16 : Int32)) / (8 : Int32)) / (9 : Int32) * (9 : Int32))) (((x1 / (16 : Int32)) / (128 : Int32)) - ((x1 / (16 : Int32)) / (128 : Int32)) / (4 : Int32) * (4 : Int32))).bind fun v14 =>
            some v14.2
          else
            if (x1 - x1 / (16 : Int32) * (16 : Int32)) = 5 then
              (f_A_admit h a0 ((x1 / (16 : Int32)) - (x1 / (16 : Int32)) / (6 : Int32) * (6 : Int32)) ((1 : Int32) + (((x1 / (16 : Int32)) / (8 : Int32)) - ((x1 / (16 : Int32)) / (8 : Int32)) / (9 : Int32) * (9 : Int32))) (((x1 / (16 : Int32)) / (128 : Int32)) - ((x1 / (16 : Int32)) / (128 : Int32)) / (4 : Int32) * (4 : Int32))).bind fun v17 =>
              some v17.2
            else
              if (x1 - x1 / (16 : Int32) * (16 : Int32)) = 6 then
                (f_A_letStand h a0 ((x1 / (16 : Int32)) - (x1 / (16 : Int32)) / (10 : Int32) * (10 : Int32)) (((x1 / (16 : Int32)) / (16 : Int32)) - ((x1 / (16 : Int32)) / (16 : Int32)) / (4 : Int32) * (4 : Int32)) (((x1 / (16 : Int32)) / (64 : Int32)) - ((x1 / (16 : Int32)) / (64 : Int32)) / (30 : Int32) * (30 : Int32))).bind fun v20 =>
                some v20.2
              else
                if (x1 - x1 / (16 : Int32) * (16 : Int32)) = 7 then
                  (f_A_letStand h a0 ((x1 / (16 : Int32)) - (x1 / (16 : Int32)) / (10 : Int32) * (10 : Int32)) (((x1 / (16 : Int32)) / (16 : Int32)) - ((x1 / (16 : Int32)) / (16 : Int32)) / (4 : Int32) * (4 : Int32)) (((x1 / (16 : Int32)) / (64 : Int32)) - ((x1 / (16 : Int32)) / (64 : Int32)) / (30 : Int32) * (30 : Int32))).bind fun v23 =>
                  some v23.2
                else
                  if (x1 - x1 / (16 : Int32) * (16 : Int32)) = 8 then
                    (f_A_letStand h a0 ((x1 / (16 : Int32)) - (x1 / (16 : Int32)) / (10 : Int32) * (10 : Int32)) (((x1 / (16 : Int32)) / (16 : Int32)) - ((x1 / (16 : Int32)) / (16 : Int32)) / (4 : Int32) * (4 : Int32)) (((x1 / (16 : Int32)) / (64 : Int32)) - ((x1 / (16 : Int32)) / (64 : Int32)) / (30 : Int32) * (30 : Int32))).bind fun v26 =>
                    some v26.2
                  else
                    if (x1 - x1 / (16 : Int32) * (16 : Int32)) = 9 then
                      (f_A_letStand h a0 ((x1 / (16 : Int32)) - (x1 / (16 : Int32)) / (10 : Int32) * (10 : Int32)) (((x1 / (16 : Int32)) / (16 : Int32)) - ((x1 / (16 : Int32)) / (16 : Int32)) / (4 : Int32) * (4 : Int32)) (((x1 / (16 : Int32)) / (64 : Int32)) - ((x1 / (16 : Int32)) / (64 : Int32)) / (30 : Int32) * (30 : Int32))).bind fun v29 =>
                      some v29.2
                    else
                      if (x1 - x1 / (16 : Int32) * (16 : Int32)) = 10 then
                        (f_A_sendAway h a0 ((x1 / (16 : Int32)) - (x1 / (16 : Int32)) / (10 : Int32) * (10 : Int32))).bind fun v32 =>
                        some v32.2
                      else
                        if (x1 - x1 / (16 : Int32) * (16 : Int32)) = 11 then
                          (f_A_exchange h a0 ((x1 / (16 : Int32)) - (x1 / (16 : Int32)) / (10 : Int32) * (10 : Int32)) (((x1 / (16 : Int32)) / (16 : Int32)) - ((x1 / (16 : Int32)) / (16 : Int32)) / (10 : Int32) * (10 : Int32))).bind fun v35 =>
                          some v35.2
                        else
                          if (x1 - x1 / (16 : Int32) * (16 : Int32)) = 12 then
                            (f_A_exchange h a0 ((x1 / (16 : Int32)) - (x1 / (16 : Int32)) / (10 : Int32) * (10 : Int32)) (((x1 / (16 : Int32)) / (16 : Int32)) - ((x1 / (16 : Int32)) / (16 : Int32)) / (10 : Int32) * (10 : Int32))).bind fun v38 =>
                            some v38.2
                          else
                            if (x1 - x1 / (16 : Int32) * (16 : Int32)) = 13 then
                              (f_A_changeSetting h a0 ((x1 / (16 : Int32)) - (x1 / (16 : Int32)) / (6 : Int32) * (6 : Int32)) (((x1 / (16 : Int32)) / (8 : Int32)) - ((x1 / (16 : Int32)) / (8 : Int32)) / (12 : Int32) * (12 : Int32))).bind fun v41 =>
                              some v41.2
                            else
                              (f_A_passDays h a0 ((1 : Int32) + ((x1 / (16 : Int32)) - (x1 / (16 : Int32)) / (5 : Int32) * (5 : Int32)))).bind fun v43 =>
                              some v43.2
set_option maxHeartbeats 1000000 in
theorem x_C_takeTurn {l : Launch} {D : va_G} {ad : Nat → Nat} {aC : Nat → ClassId} (hf : l.flags = flags0) (hI : Inj ad) {h : HP} {a0 : Nat} {x1 : Int32} {r : HP} (k0 : knd a0 = 1) (e : f_C_takeTurn h a0 x1 = some r) : CT l D ad aC m_C_takeTurn [.ref a0, .int x1] h (.inl none) r := by
  refine CT.ofGo (by decide +kernel) rfl (Nat.le_of_ble_eq_true rfl) ?_
  unfold f_C_takeTurn at e
  show Go l D ad aC (rmk m_C_takeTurn) _ m_C_takeTurn 0 [some (.ref a0), some (.int x1), none] [] h 0 0
  refine Go.run (pc' := 9) [.iload_n 1, .bipush (16), .idiv, .istore_n 2, .iload_n 1, .bipush (16), .irem] (ls' := [some (.ref a0), some (.int x1), some (.int (x1 / (16 : Int32)))]) (st' := [.int (x1 - x1 / (16 : Int32) * (16 : Int32))]) (by decide +kernel) rfl rfl ?_
  rcases Decidable.em ((x1 - x1 / (16 : Int32) * (16 : Int32)) = 0) with c1 | c1
  · replace e := ite_t c1 e
    refine Go.tsIn (dflt := 212) (lo := 0) (hi := 13) (offs := #[71, 85, 85, 109, 109, 109, 137, 137, 137, 137, 162, 174, 174, 193]) (len := 71) (off := 71) (tgt := 80) 0 (by decide +kernel) (by rw [c1]; decide) (by decide) (by decide) (by decide) (by decide) ?_
    refine Go.run (pc' := 87) [.aload_n 0, .iconst 4, .iload_n 2, .bipush (27), .irem, .iadd] (ls' := [some (.ref a0), some (.int x1), some (.int (x1 / (16 : Int32)))]) (st' := [.int ((4 : Int32) + ((x1 / (16 : Int32)) - (x1 / (16 : Int32)) / (27 : Int32) * (27 : Int32))), .ref a0]) (by decide +kernel) rfl rfl ?_
    obtain ⟨v2, e3, e⟩ := bd_inv e
    refine Go.callV (M2 := m_A_openWall) (a := a0) (as := [.int ((4 : Int32) + ((x1 / (16 : Int32)) - (x1 / (16 : Int32)) / (27 : Int32) * (27 : Int32)))]) (rest := []) (v := some (.int v2.1)) (h1 := v2.2) (x_A_openWall hf hI k0 e3) wv_C_19 k0 kc_1 (by decide +kernel) rfl rfl ⟨⟨Nat.le_of_ble_eq_true rfl, Nat.le_of_ble_eq_true rfl⟩, ⟨Nat.le_of_ble_eq_true rfl, Nat.le_of_ble_eq_true rfl⟩⟩ (Nat.le_of_ble_eq_true rfl) ?_
    show Go l D ad aC (rmk m_C_takeTurn) _ m_C_takeTurn 90 [some (.ref a0), some (.int x1), some (.int (x1 / (16 : Int32)))] [.int v2.1] v2.2 0 0
    refine Go.run (pc' := 91) [.pop] (ls' := [some (.ref a0), some (.int x1), some (.int (x1 / (16 : Int32)))]) (st' := []) (by decide +kernel) rfl rfl ?_
    refine Go.goto (off := 140) (tgt := 231) (by decide +kernel) (by decide) ?_
    obtain rfl := Option.some.inj e
    exact Go.vret rfl (by decide) (by decide) (by decide +kernel)
  replace e := ite_f c1 e
  rcases Decidable.em ((x1 - x1 / (16 : Int32) * (16 : Int32)) = 1) with c4 | c4
  · replace e := ite_t c4 e
    refine Go.tsIn (dflt := 212) (lo := 0) (hi := 13) (offs := #[71, 85, 85, 109, 109, 109, 137, 137, 137, 137, 162, 174, 174, 193]) (len := 71) (off := 85) (tgt := 94) 1 (by decide +kernel) (by rw [c4]; decide) (by decide) (by decide) (by decide) (by decide) ?_
    refine Go.run (pc' := 111) [.aload_n 0, .iload_n 2, .iconst 4, .irem, .iload_n 2, .iconst 4, .idiv, .bipush (30), .irem, .iload_n 2, .sipush (128), .idiv, .iconst 5, .irem] (ls' := [some (.ref a0), some (.int x1), some (.int (x1 / (16 : Int32)))]) (st' := [.int (((x1 / (16 : Int32)) / (128 : Int32)) - ((x1 / (16 : Int32)) / (128 : Int32)) / (5 : Int32) * (5 : Int32)), .int (((x1 / (16 : Int32)) / (4 : Int32)) - ((x1 / (16 : Int32)) / (4 : Int32)) / (30 : Int32) * (30 : Int32)), .int ((x1 / (16 : Int32)) - (x1 / (16 : Int32)) / (4 : Int32) * (4 : Int32)), .ref a0]) (by decide +kernel) rfl rfl ?_
    obtain ⟨v5, e6, e⟩ := bd_inv e
    refine Go.callV (M2 := m_A_putPlugs) (a := a0) (as := [.int ((x1 / (16 : Int32)) - (x1 / (16 : Int32)) / (4 : Int32) * (4 : Int32)), .int (((x1 / (16 : Int32)) / (4 : Int32)) - ((x1 / (16 : Int32)) / (4 : Int32)) / (30 : Int32) * (30 : Int32)), .int (((x1 / (16 : Int32)) / (128 : Int32)) - ((x1 / (16 : Int32)) / (128 : Int32)) / (5 : Int32) * (5 : Int32))]) (rest := []) (v := some (.int v5.1)) (h1 := v5.2) (x_A_putPlugs hf hI k0 e6) wv_C_24 k0 kc_1 (by decide +kernel) rfl rfl ⟨⟨Nat.le_of_ble_eq_true rfl, Nat.le_of_ble_eq_true rfl⟩, ⟨Nat.le_of_ble_eq_true rfl, Nat.le_of_ble_eq_true rfl⟩⟩ (Nat.le_of_ble_eq_true rfl) ?_
    show Go l D ad aC (rmk m_C_takeTurn) _ m_C_takeTurn 114 [some (.ref a0), some (.int x1), some (.int (x1 / (16 : Int32)))] [.int v5.1] v5.2 0 0
    refine Go.run (pc' := 115) [.pop] (ls' := [some (.ref a0), some (.int x1), some (.int (x1 / (16 : Int32)))]) (st' := []) (by decide +kernel) rfl rfl ?_
    refine Go.goto (off := 116) (tgt := 231) (by decide +kernel) (by decide) ?_
    obtain rfl := Option.some.inj e
    exact Go.vret rfl (by decide) (by decide) (by decide +kernel)
  replace e := ite_f c4 e
  rcases Decidable.em ((x1 - x1 / (16 : Int32) * (16 : Int32)) = 2) with c7 | c7
  · replace e := ite_t c7 e
    refine Go.tsIn (dflt := 212) (lo := 0) (hi := 13) (offs := #[71, 85, 85, 109, 109, 109, 137, 137, 137, 137, 162, 174, 174, 193]) (len := 71) (off := 85) (tgt := 94) 2 (by decide +kernel) (by rw [c7]; decide) (by decide) (by decide) (by decide) (by decide) ?_
    refine Go.run (pc' := 111) [.aload_n 0, .iload_n 2, .iconst 4, .irem, .iload_n 2, .iconst 4, .idiv, .bipush (30), .irem, .iload_n 2, .sipush (128), .idiv, .iconst 5, .irem] (ls' := [some (.ref a0), some (.int x1), some (.int (x1 / (16 : Int32)))]) (st' := [.int (((x1 / (16 : Int32)) / (128 : Int32)) - ((x1 / (16 : Int32)) / (128 : Int32)) / (5 : Int32) * (5 : Int32)), .int (((x1 / (16 : Int32)) / (4 : Int32)) - ((x1 / (16 : Int32)) / (4 : Int32)) / (30 : Int32) * (30 : Int32)), .int ((x1 / (16 : Int32)) - (x1 / (16 : Int32)) / (4 : Int32) * (4 : Int32)), .ref a0]) (by decide +kernel) rfl rfl ?_
    obtain ⟨v8, e9, e⟩ := bd_inv e
    refine Go.callV (M2 := m_A_putPlugs) (a := a0) (as := [.int ((x1 / (16 : Int32)) - (x1 / (16 : Int32)) / (4 : Int32) * (4 : Int32)), .int (((x1 / (16 : Int32)) / (4 : Int32)) - ((x1 / (16 : Int32)) / (4 : Int32)) / (30 : Int32) * (30 : Int32)), .int (((x1 / (16 : Int32)) / (128 : Int32)) - ((x1 / (16 : Int32)) / (128 : Int32)) / (5 : Int32) * (5 : Int32))]) (rest := []) (v := some (.int v8.1)) (h1 := v8.2) (x_A_putPlugs hf hI k0 e9) wv_C_24 k0 kc_1 (by decide +kernel) rfl rfl ⟨⟨Nat.le_of_ble_eq_true rfl, Nat.le_of_ble_eq_true rfl⟩, ⟨Nat.le_of_ble_eq_true rfl, Nat.le_of_ble_eq_true rfl⟩⟩ (Nat.le_of_ble_eq_true rfl) ?_
    show Go l D ad aC (rmk m_C_takeTurn) _ m_C_takeTurn 114 [some (.ref a0), some (.int x1), some (.int (x1 / (16 : Int32)))] [.int v8.1] v8.2 0 0
    refine Go.run (pc' := 115) [.pop] (ls' := [some (.ref a0), some (.int x1), some (.int (x1 / (16 : Int32)))]) (st' := []) (by decide +kernel) rfl rfl ?_
    refine Go.goto (off := 116) (tgt := 231) (by decide +kernel) (by decide) ?_
    obtain rfl := Option.some.inj e
    exact Go.vret rfl (by decide) (by decide) (by decide +kernel)
  replace e := ite_f c7 e
  rcases Decidable.em ((x1 - x1 / (16 : Int32) * (16 : Int32)) = 3) with c10 | c10
  · replace e := ite_t c10 e
    refine Go.tsIn (dflt := 212) (lo := 0) (hi := 13) (offs := #[71, 85, 85, 109, 109, 109, 137, 137, 137, 137, 162, 174, 174, 193]) (len := 71) (off := 109) (tgt := 118) 3 (by decide +kernel) (by rw [c10]; decide) (by decide) (by decide) (by decide) (by decide) ?_
    refine Go.run (pc' := 139) [.aload_n 0, .iload_n 2, .bipush (6), .irem, .iconst 1, .iload_n 2, .bipush (8), .idiv, .bipush (9), .irem, .iadd, .iload_n 2, .sipush (128), .idiv, .iconst 4, .irem] (ls' := [some (.ref a0), some (.int x1), some (.int (x1 / (16 : Int32)))]) (st' := [.int (((x1 / (16 : Int32)) / (128 : Int32)) - ((x1 / (16 : Int32)) / (128 : Int32)) / (4 : Int32) * (4 : Int32)), .int ((1 : Int32) + (((x1 / (16 : Int32)) / (8 : Int32)) - ((x1 / (16 : Int32)) / (8 : Int32)) / (9 : Int32) * (9 : Int32))), .int ((x1 / (16 : Int32)) - (x1 / (16 : Int32)) / (6 : Int32) * (6 : Int32)), .ref a0]) (by decide +kernel) rfl rfl ?_
    obtain ⟨v11, e12, e⟩ := bd_inv e
    refine Go.callV (M2 := m_A_admit) (a := a0) (as := [.int ((x1 / (16 : Int32)) - (x1 / (16 : Int32)) / (6 : Int32) * (6 : Int32)), .int ((1 : Int32) + (((x1 / (16 : Int32)) / (8 : Int32)) - ((x1 / (16 : Int32)) / (8 : Int32)) / (9 : Int32) * (9 : Int32))), .int (((x1 / (16 : Int32)) / (128 : Int32)) - ((x1 / (16 : Int32)) / (128 : Int32)) / (4 : Int32) * (4 : Int32))]) (rest := []) (v := some (.int v11.1)) (h1 := v11.2) (x_A_admit hf hI k0 e12) wv_C_28 k0 kc_1 (by decide +kernel) rfl rfl ⟨⟨Nat.le_of_ble_eq_true rfl, Nat.le_of_ble_eq_true rfl⟩, ⟨Nat.le_of_ble_eq_true rfl, Nat.le_of_ble_eq_true rfl⟩⟩ (Nat.le_of_ble_eq_true rfl) ?_
    show Go l D ad aC (rmk m_C_takeTurn) _ m_C_takeTurn 142 [some (.ref a0), some (.int x1), some (.int (x1 / (16 : Int32)))] [.int v11.1] v11.2 0 0
    refine Go.run (pc' := 143) [.pop] (ls' := [some (.ref a0), some (.int x1), some (.int (x1 / (16 : Int32)))]) (st' := []) (by decide +kernel) rfl rfl ?_
    refine Go.goto (off := 88) (tgt := 231) (by decide +kernel) (by decide) ?_
    obtain rfl := Option.some.inj e
    exact Go.vret rfl (by decide) (by decide) (by decide +kernel)
  replace e := ite_f c10 e
  rcases Decidable.em ((x1 - x1 / (16 : Int32) * (16 : Int32)) = 4) with c13 | c13
  · replace e := ite_t c13 e
    refine Go.tsIn (dflt := 212) (lo := 0) (hi := 13) (offs := #[71, 85, 85, 109, 109, 109, 137, 137, 137, 137, 162, 174, 174, 193]) (len := 71) (off := 109) (tgt := 118) 4 (by decide +kernel) (by rw [c13]; decide) (by decide) (by decide) (by decide) (by decide) ?_
    refine Go.run (pc' := 139) [.aload_n 0, .iload_n 2, .bipush (6), .irem, .iconst 1, .iload_n 2, .bipush (8), .idiv, .bipush (9), .irem, .iadd, .iload_n 2, .sipush (128), .idiv, .iconst 4, .irem] (ls' := [some (.ref a0), some (.int x1), some (.int (x1 / (16 : Int32)))]) (st' := [.int (((x1 / (16 : Int32)) / (128 : Int32)) - ((x1 / (16 : Int32)) / (128 : Int32)) / (4 : Int32) * (4 : Int32)), .int ((1 : Int32) + (((x1 / (16 : Int32)) / (8 : Int32)) - ((x1 / (16 : Int32)) / (8 : Int32)) / (9 : Int32) * (9 : Int32))), .int ((x1 / (16 : Int32)) - (x1 / (16 : Int32)) / (6 : Int32) * (6 : Int32)), .ref a0]) (by decide +kernel) rfl rfl ?_
    obtain ⟨v14, e15, e⟩ := bd_inv e
    refine Go.callV (M2 := m_A_admit) (a := a0) (as := [.int ((x1 / (16 : Int32)) - (x1 / (16 : Int32)) / (6 : Int32) * (6 : Int32)), .int ((1 : Int32) + (((x1 / (16 : Int32)) / (8 : Int32)) - ((x1 / (16 : Int32)) / (8 : Int32)) / (9 : Int32) * (9 : Int32))), .int (((x1 / (16 : Int32)) / (128 : Int32)) - ((x1 / (16 : Int32)) / (128 : Int32)) / (4 : Int32) * (4 : Int32))]) (rest := []) (v := some (.int v14.1)) (h1 := v14.2) (x_A_admit hf hI k0 e15) wv_C_28 k0 kc_1 (by decide +kernel) rfl rfl ⟨⟨Nat.le_of_ble_eq_true rfl, Nat.le_of_ble_eq_true rfl⟩, ⟨Nat.le_of_ble_eq_true rfl, Nat.le_of_ble_eq_true rfl⟩⟩ (Nat.le_of_ble_eq_true rfl) ?_
    show Go l D ad aC (rmk m_C_takeTurn) _ m_C_takeTurn 142 [some (.ref a0), some (.int x1), some (.int (x1 / (16 : Int32)))] [.int v14.1] v14.2 0 0
    refine Go.run (pc' := 143) [.pop] (ls' := [some (.ref a0), some (.int x1), some (.int (x1 / (16 : Int32)))]) (st' := []) (by decide +kernel) rfl rfl ?_
    refine Go.goto (off := 88) (tgt := 231) (by decide +kernel) (by decide) ?_
    obtain rfl := Option.some.inj e
    exact Go.vret rfl (by decide) (by decide) (by decide +kernel)
  replace e := ite_f c13 e
  rcases Decidable.em ((x1 - x1 / (16 : Int32) * (16 : Int32)) = 5) with c16 | c16
  · replace e := ite_t c16 e
    refine Go.tsIn (dflt := 212) (lo := 0) (hi := 13) (offs := #[71, 85, 85, 109, 109, 109, 137, 137, 137, 137, 162, 174, 174, 193]) (len := 71) (off := 109) (tgt := 118) 5 (by decide +kernel) (by rw [c16]; decide) (by decide) (by decide) (by decide) (by decide) ?_
    refine Go.run (pc' := 139) [.aload_n 0, .iload_n 2, .bipush (6), .irem, .iconst 1, .iload_n 2, .bipush (8), .idiv, .bipush (9), .irem, .iadd, .iload_n 2, .sipush (128), .idiv, .iconst 4, .irem] (ls' := [some (.ref a0), some (.int x1), some (.int (x1 / (16 : Int32)))]) (st' := [.int (((x1 / (16 : Int32)) / (128 : Int32)) - ((x1 / (16 : Int32)) / (128 : Int32)) / (4 : Int32) * (4 : Int32)), .int ((1 : Int32) + (((x1 / (16 : Int32)) / (8 : Int32)) - ((x1 / (16 : Int32)) / (8 : Int32)) / (9 : Int32) * (9 : Int32))), .int ((x1 / (16 : Int32)) - (x1 / (16 : Int32)) / (6 : Int32) * (6 : Int32)), .ref a0]) (by decide +kernel) rfl rfl ?_
    obtain ⟨v17, e18, e⟩ := bd_inv e
    refine Go.callV (M2 := m_A_admit) (a := a0) (as := [.int ((x1 / (16 : Int32)) - (x1 / (16 : Int32)) / (6 : Int32) * (6 : Int32)), .int ((1 : Int32) + (((x1 / (16 : Int32)) / (8 : Int32)) - ((x1 / (16 : Int32)) / (8 : Int32)) / (9 : Int32) * (9 : Int32))), .int (((x1 / (16 : Int32)) / (128 : Int32)) - ((x1 / (16 : Int32)) / (128 : Int32)) / (4 : Int32) * (4 : Int32))]) (rest := []) (v := some (.int v17.1)) (h1 := v17.2) (x_A_admit hf hI k0 e18) wv_C_28 k0 kc_1 (by decide +kernel) rfl rfl ⟨⟨Nat.le_of_ble_eq_true rfl, Nat.le_of_ble_eq_true rfl⟩, ⟨Nat.le_of_ble_eq_true rfl, Nat.le_of_ble_eq_true rfl⟩⟩ (Nat.le_of_ble_eq_true rfl) ?_
    show Go l D ad aC (rmk m_C_takeTurn) _ m_C_takeTurn 142 [some (.ref a0), some (.int x1), some (.int (x1 / (16 : Int32)))] [.int v17.1] v17.2 0 0
    refine Go.run (pc' := 143) [.pop] (ls' := [some (.ref a0), some (.int x1), some (.int (x1 / (16 : Int32)))]) (st' := []) (by decide +kernel) rfl rfl ?_
    refine Go.goto (off := 88) (tgt := 231) (by decide +kernel) (by decide) ?_
    obtain rfl := Option.some.inj e
    exact Go.vret rfl (by decide) (by decide) (by decide +kernel)
  replace e := ite_f c16 e
  rcases Decidable.em ((x1 - x1 / (16 : Int32) * (16 : Int32)) = 6) with c19 | c19
  · replace e := ite_t c19 e
    refine Go.tsIn (dflt := 212) (lo := 0) (hi := 13) (offs := #[71, 85, 85, 109, 109, 109, 137, 137, 137, 137, 162, 174, 174, 193]) (len := 71) (off := 137) (tgt := 146) 6 (by decide +kernel) (by rw [c19]; decide) (by decide) (by decide) (by decide) (by decide) ?_
    refine Go.run (pc' := 164) [.aload_n 0, .iload_n 2, .bipush (10), .irem, .iload_n 2, .bipush (16), .idiv, .iconst 4, .irem, .iload_n 2, .bipush (64), .idiv, .bipush (30), .irem] (ls' := [some (.ref a0), some (.int x1), some (.int (x1 / (16 : Int32)))]) (st' := [.int (((x1 / (16 : Int32)) / (64 : Int32)) - ((x1 / (16 : Int32)) / (64 : Int32)) / (30 : Int32) * (30 : Int32)), .int (((x1 / (16 : Int32)) / (16 : Int32)) - ((x1 / (16 : Int32)) / (16 : Int32)) / (4 : Int32) * (4 : Int32)), .int ((x1 / (16 : Int32)) - (x1 / (16 : Int32)) / (10 : Int32) * (10 : Int32)), .ref a0]) (by decide +kernel) rfl rfl ?_
    obtain ⟨v20, e21, e⟩ := bd_inv e
    refine Go.callV (M2 := m_A_letStand) (a := a0) (as := [.int ((x1 / (16 : Int32)) - (x1 / (16 : Int32)) / (10 : Int32) * (10 : Int32)), .int (((x1 / (16 : Int32)) / (16 : Int32)) - ((x1 / (16 : Int32)) / (16 : Int32)) / (4 : Int32) * (4 : Int32)), .int (((x1 / (16 : Int32)) / (64 : Int32)) - ((x1 / (16 : Int32)) / (64 : Int32)) / (30 : Int32) * (30 : Int32))]) (rest := []) (v := some (.int v20.1)) (h1 := v20.2) (x_A_letStand hf hI k0 e21) wv_C_31 k0 kc_1 (by decide +kernel) rfl rfl ⟨⟨Nat.le_of_ble_eq_true rfl, Nat.le_of_ble_eq_true rfl⟩, ⟨Nat.le_of_ble_eq_true rfl, Nat.le_of_ble_eq_true rfl⟩⟩ (Nat.le_of_ble_eq_true rfl) ?_
    show Go l D ad aC (rmk m_C_takeTurn) _ m_C_takeTurn 167 [some (.ref a0), some (.int x1), some (.int (x1 / (16 : Int32)))] [.int v20.1] v20.2 0 0
    refine Go.run (pc' := 168) [.pop] (ls' := [some (.ref a0), some (.int x1), some (.int (x1 / (16 : Int32)))]) (st' := []) (by decide +kernel) rfl rfl ?_
    refine Go.goto (off := 63) (tgt := 231) (by decide +kernel) (by decide) ?_
    obtain rfl := Option.some.inj e
    exact Go.vret rfl (by decide) (by decide) (by decide +kernel)
  replace e := ite_f c19 e
  rcases Decidable.em ((x1 - x1 / (16 : Int32) * (16 : Int32)) = 7) with c22 | c22
  · replace e := ite_t c22 e
    refine Go.tsIn (dflt := 212) (lo := 0) (hi := 13) (offs := #[71, 85, 85, 109, 109, 109, 137, 137, 137, 137, 162, 174, 174, 193]) (len := 71) (off := 137) (tgt := 146) 7 (by decide +kernel) (by rw [c22]; decide) (by decide) (by decide) (by decide) (by decide) ?_
    refine Go.run (pc' := 164) [.aload_n 0, .iload_n 2, .bipush (10), .irem, .iload_n 2, .bipush (16), .idiv, .iconst 4, .irem, .iload_n 2, .bipush (64), .idiv, .bipush (30), .irem] (ls' := [some (.ref a0), some (.int x1), some (.int (x1 / (16 : Int32)))]) (st' := [.int (((x1 / (16 : Int32)) / (64 : Int32)) - ((x1 / (16 : Int32)) / (64 : Int32)) / (30 : Int32) * (30 : Int32)), .int (((x1 / (16 : Int32)) / (16 : Int32)) - ((x1 / (16 : Int32)) / (16 : Int32)) / (4 : Int32) * (4 : Int32)), .int ((x1 / (16 : Int32)) - (x1 / (16 : Int32)) / (10 : Int32) * (10 : Int32)), .ref a0]) (by decide +kernel) rfl rfl ?_
    obtain ⟨v23, e24, e⟩ := bd_inv e
    refine Go.callV (M2 := m_A_letStand) (a := a0) (as := [.int ((x1 / (16 : Int32)) - (x1 / (16 : Int32)) / (10 : Int32) * (10 : Int32)), .int (((x1 / (16 : Int32)) / (16 : Int32)) - ((x1 / (16 : Int32)) / (16 : Int32)) / (4 : Int32) * (4 : Int32)), .int (((x1 / (16 : Int32)) / (64 : Int32)) - ((x1 / (16 : Int32)) / (64 : Int32)) / (30 : Int32) * (30 : Int32))]) (rest := []) (v := some (.int v23.1)) (h1 := v23.2) (x_A_letStand hf hI k0 e24) wv_C_31 k0 kc_1 (by decide +kernel) rfl rfl ⟨⟨Nat.le_of_ble_eq_true rfl, Nat.le_of_ble_eq_true rfl⟩, ⟨Nat.le_of_ble_eq_true rfl, Nat.le_of_ble_eq_true rfl⟩⟩ (Nat.le_of_ble_eq_true rfl) ?_
    show Go l D ad aC (rmk m_C_takeTurn) _ m_C_takeTurn 167 [some (.ref a0), some (.int x1), some (.int (x1 / (16 : Int32)))] [.int v23.1] v23.2 0 0
    refine Go.run (pc' := 168) [.pop] (ls' := [some (.ref a0), some (.int x1), some (.int (x1 / (16 : Int32)))]) (st' := []) (by decide +kernel) rfl rfl ?_
    refine Go.goto (off := 63) (tgt := 231) (by decide +kernel) (by decide) ?_
    obtain rfl := Option.some.inj e
    exact Go.vret rfl (by decide) (by decide) (by decide +kernel)
  replace e := ite_f c22 e
  rcases Decidable.em ((x1 - x1 / (16 : Int32) * (16 : Int32)) = 8) with c25 | c25
  · replace e := ite_t c25 e
    refine Go.tsIn (dflt := 212) (lo := 0) (hi := 13) (offs := #[71, 85, 85, 109, 109, 109, 137, 137, 137, 137, 162, 174, 174, 193]) (len := 71) (off := 137) (tgt := 146) 8 (by decide +kernel) (by rw [c25]; decide) (by decide) (by decide) (by decide) (by decide) ?_
    refine Go.run (pc' := 164) [.aload_n 0, .iload_n 2, .bipush (10), .irem, .iload_n 2, .bipush (16), .idiv, .iconst 4, .irem, .iload_n 2, .bipush (64), .idiv, .bipush (30), .irem] (ls' := [some (.ref a0), some (.int x1), some (.int (x1 / (16 : Int32)))]) (st' := [.int (((x1 / (16 : Int32)) / (64 : Int32)) - ((x1 / (16 : Int32)) / (64 : Int32)) / (30 : Int32) * (30 : Int32)), .int (((x1 / (16 : Int32)) / (16 : Int32)) - ((x1 / (16 : Int32)) / (16 : Int32)) / (4 : Int32) * (4 : Int32)), .int ((x1 / (16 : Int32)) - (x1 / (16 : Int32)) / (10 : Int32) * (10 : Int32)), .ref a0]) (by decide +kernel) rfl rfl ?_
    obtain ⟨v26, e27, e⟩ := bd_inv e
    refine Go.callV (M2 := m_A_letStand) (a := a0) (as := [.int ((x1 / (16 : Int32)) - (x1 / (16 : Int32)) / (10 : Int32) * (10 : Int32)), .int (((x1 / (16 : Int32)) / (16 : Int32)) - ((x1 / (16 : Int32)) / (16 : Int32)) / (4 : Int32) * (4 : Int32)), .int (((x1 / (16 : Int32)) / (64 : Int32)) - ((x1 / (16 : Int32)) / (64 : Int32)) / (30 : Int32) * (30 : Int32))]) (rest := []) (v := some (.int v26.1)) (h1 := v26.2) (x_A_letStand hf hI k0 e27) wv_C_31 k0 kc_1 (by decide +kernel) rfl rfl ⟨⟨Nat.le_of_ble_eq_true rfl, Nat.le_of_ble_eq_true rfl⟩, ⟨Nat.le_of_ble_eq_true rfl, Nat.le_of_ble_eq_true rfl⟩⟩ (Nat.le_of_ble_eq_true rfl) ?_
    show Go l D ad aC (rmk m_C_takeTurn) _ m_C_takeTurn 167 [some (.ref a0), some (.int x1), some (.int (x1 / (16 : Int32)))] [.int v26.1] v26.2 0 0
    refine Go.run (pc' := 168) [.pop] (ls' := [some (.ref a0), some (.int x1), some (.int (x1 / (16 : Int32)))]) (st' := []) (by decide +kernel) rfl rfl ?_
    refine Go.goto (off := 63) (tgt := 231) (by decide +kernel) (by decide) ?_
    obtain rfl := Option.some.inj e
    exact Go.vret rfl (by decide) (by decide) (by decide +kernel)
  replace e := ite_f c25 e
  rcases Decidable.em ((x1 - x1 / (16 : Int32) * (16 : Int32)) = 9) with c28 | c28
  · replace e := ite_t c28 e
    refine Go.tsIn (dflt := 212) (lo := 0) (hi := 13) (offs := #[71, 85, 85, 109, 109, 109, 137, 137, 137, 137, 162, 174, 174, 193]) (len := 71) (off := 137) (tgt := 146) 9 (by decide +kernel) (by rw [c28]; decide) (by decide) (by decide) (by decide) (by decide) ?_
    refine Go.run (pc' := 164) [.aload_n 0, .iload_n 2, .bipush (10), .irem, .iload_n 2, .bipush (16), .idiv, .iconst 4, .irem, .iload_n 2, .bipush (64), .idiv, .bipush (30), .irem] (ls' := [some (.ref a0), some (.int x1), some (.int (x1 / (16 : Int32)))]) (st' := [.int (((x1 / (16 : Int32)) / (64 : Int32)) - ((x1 / (16 : Int32)) / (64 : Int32)) / (30 : Int32) * (30 : Int32)), .int (((x1 / (16 : Int32)) / (16 : Int32)) - ((x1 / (16 : Int32)) / (16 : Int32)) / (4 : Int32) * (4 : Int32)), .int ((x1 / (16 : Int32)) - (x1 / (16 : Int32)) / (10 : Int32) * (10 : Int32)), .ref a0]) (by decide +kernel) rfl rfl ?_
    obtain ⟨v29, e30, e⟩ := bd_inv e
    refine Go.callV (M2 := m_A_letStand) (a := a0) (as := [.int ((x1 / (16 : Int32)) - (x1 / (16 : Int32)) / (10 : Int32) * (10 : Int32)), .int (((x1 / (16 : Int32)) / (16 : Int32)) - ((x1 / (16 : Int32)) / (16 : Int32)) / (4 : Int32) * (4 : Int32)), .int (((x1 / (16 : Int32)) / (64 : Int32)) - ((x1 / (16 : Int32)) / (64 : Int32)) / (30 : Int32) * (30 : Int32))]) (rest := []) (v := some (.int v29.1)) (h1 := v29.2) (x_A_letStand hf hI k0 e30) wv_C_31 k0 kc_1 (by decide +kernel) rfl rfl ⟨⟨Nat.le_of_ble_eq_true rfl, Nat.le_of_ble_eq_true rfl⟩, ⟨Nat.le_of_ble_eq_true rfl, Nat.le_of_ble_eq_true rfl⟩⟩ (Nat.le_of_ble_eq_true rfl) ?_
    show Go l D ad aC (rmk m_C_takeTurn) _ m_C_takeTurn 167 [some (.ref a0), some (.int x1), some (.int (x1 / (16 : Int32)))] [.int v29.1] v29.2 0 0
    refine Go.run (pc' := 168) [.pop] (ls' := [some (.ref a0), some (.int x1), some (.int (x1 / (16 : Int32)))]) (st' := []) (by decide +kernel) rfl rfl ?_
    refine Go.goto (off := 63) (tgt := 231) (by decide +kernel) (by decide) ?_
    obtain rfl := Option.some.inj e
    exact Go.vret rfl (by decide) (by decide) (by decide +kernel)
  replace e := ite_f c28 e
  rcases Decidable.em ((x1 - x1 / (16 : Int32) * (16 : Int32)) = 10) with c31 | c31
  · replace e := ite_t c31 e
    refine Go.tsIn (dflt := 212) (lo := 0) (hi := 13) (offs := #[71, 85, 85, 109, 109, 109, 137, 137, 137, 137, 162, 174, 174, 193]) (len := 71) (off := 162) (tgt := 171) 10 (by decide +kernel) (by rw [c31]; decide) (by decide) (by decide) (by decide) (by decide) ?_
    refine Go.run (pc' := 176) [.aload_n 0, .iload_n 2, .bipush (10), .irem] (ls' := [some (.ref a0), some (.int x1), some (.int (x1 / (16 : Int32)))]) (st' := [.int ((x1 / (16 : Int32)) - (x1 / (16 : Int32)) / (10 : Int32) * (10 : Int32)), .ref a0]) (by decide +kernel) rfl rfl ?_
    obtain ⟨v32, e33, e⟩ := bd_inv e
    refine Go.callV (M2 := m_A_sendAway) (a := a0) (as := [.int ((x1 / (16 : Int32)) - (x1 / (16 : Int32)) / (10 : Int32) * (10 : Int32))]) (rest := []) (v := some (.int v32.1)) (h1 := v32.2) (x_A_sendAway hf hI k0 e33) wv_C_34 k0 kc_1 (by decide +kernel) rfl rfl ⟨⟨Nat.le_of_ble_eq_true rfl, Nat.le_of_ble_eq_true rfl⟩, ⟨Nat.le_of_ble_eq_true rfl, Nat.le_of_ble_eq_true rfl⟩⟩ (Nat.le_of_ble_eq_true rfl) ?_
    show Go l D ad aC (rmk m_C_takeTurn) _ m_C_takeTurn 179 [some (.ref a0), some (.int x1), some (.int (x1 / (16 : Int32)))] [.int v32.1] v32.2 0 0
    refine Go.run (pc' := 180) [.pop] (ls' := [some (.ref a0), some (.int x1), some (.int (x1 / (16 : Int32)))]) (st' := []) (by decide +kernel) rfl rfl ?_
    refine Go.goto (off := 51) (tgt := 231) (by decide +kernel) (by decide) ?_
    obtain rfl := Option.some.inj e
    exact Go.vret rfl (by decide) (by decide) (by decide +kernel)
  replace e := ite_f c31 e
  rcases Decidable.em ((x1 - x1 / (16 : Int32) * (16 : Int32)) = 11) with c34 | c34
  · replace e := ite_t c34 e
    refine Go.tsIn (dflt := 212) (lo := 0) (hi := 13) (offs := #[71, 85, 85, 109, 109, 109, 137, 137, 137, 137, 162, 174, 174, 193]) (len := 71) (off := 174) (tgt := 183) 11 (by decide +kernel) (by rw [c34]; decide) (by decide) (by decide) (by decide) (by decide) ?_
    refine Go.run (pc' := 195) [.aload_n 0, .iload_n 2, .bipush (10), .irem, .iload_n 2, .bipush (16), .idiv, .bipush (10), .irem] (ls' := [some (.ref a0), some (.int x1), some (.int (x1 / (16 : Int32)))]) (st' := [.int (((x1 / (16 : Int32)) / (16 : Int32)) - ((x1 / (16 : Int32)) / (16 : Int32)) / (10 : Int32) * (10 : Int32)), .int ((x1 / (16 : Int32)) - (x1 / (16 : Int32)) / (10 : Int32) * (10 : Int32)), .ref a0]) (by decide +kernel) rfl rfl ?_
    obtain ⟨v35, e36, e⟩ := bd_inv e
    refine Go.callV (M2 := m_A_exchange) (a := a0) (as := [.int ((x1 / (16 : Int32)) - (x1 / (16 : Int32)) / (10 : Int32) * (10 : Int32)), .int (((x1 / (16 : Int32)) / (16 : Int32)) - ((x1 / (16 : Int32)) / (16 : Int32)) / (10 : Int32) * (10 : Int32))]) (rest := []) (v := some (.int v35.1)) (h1 := v35.2) (x_A_exchange hf hI k0 e36) wv_C_37 k0 kc_1 (by decide +kernel) rfl rfl ⟨⟨Nat.le_of_ble_eq_true rfl, Nat.le_of_ble_eq_true rfl⟩, ⟨Nat.le_of_ble_eq_true rfl, Nat.le_of_ble_eq_true rfl⟩⟩ (Nat.le_of_ble_eq_true rfl) ?_
    show Go l D ad aC (rmk m_C_takeTurn) _ m_C_takeTurn 198 [some (.ref a0), some (.int x1), some (.int (x1 / (16 : Int32)))] [.int v35.1] v35.2 0 0
    refine Go.run (pc' := 199) [.pop] (ls' := [some (.ref a0), some (.int x1), some (.int (x1 / (16 : Int32)))]) (st' := []) (by decide +kernel) rfl rfl ?_
    refine Go.goto (off := 32) (tgt := 231) (by decide +kernel) (by decide) ?_
    obtain rfl := Option.some.inj e
    exact Go.vret rfl (by decide) (by decide) (by decide +kernel)
  replace e := ite_f c34 e
  rcases Decidable.em ((x1 - x1 / (16 : Int32) * (16 : Int32)) = 12) with c37 | c37
  · replace e := ite_t c37 e
    refine Go.tsIn (dflt := 212) (lo := 0) (hi := 13) (offs := #[71, 85, 85, 109, 109, 109, 137, 137, 137, 137, 162, 174, 174, 193]) (len := 71) (off := 174) (tgt := 183) 12 (by decide +kernel) (by rw [c37]; decide) (by decide) (by decide) (by decide) (by decide) ?_
    refine Go.run (pc' := 195) [.aload_n 0, .iload_n 2, .bipush (10), .irem, .iload_n 2, .bipush (16), .idiv, .bipush (10), .irem] (ls' := [some (.ref a0), some (.int x1), some (.int (x1 / (16 : Int32)))]) (st' := [.int (((x1 / (16 : Int32)) / (16 : Int32)) - ((x1 / (16 : Int32)) / (16 : Int32)) / (10 : Int32) * (10 : Int32)), .int ((x1 / (16 : Int32)) - (x1 / (16 : Int32)) / (10 : Int32) * (10 : Int32)), .ref a0]) (by decide +kernel) rfl rfl ?_
    obtain ⟨v38, e39, e⟩ := bd_inv e
    refine Go.callV (M2 := m_A_exchange) (a := a0) (as := [.int ((x1 / (16 : Int32)) - (x1 / (16 : Int32)) / (10 : Int32) * (10 : Int32)), .int (((x1 / (16 : Int32)) / (16 : Int32)) - ((x1 / (16 : Int32)) / (16 : Int32)) / (10 : Int32) * (10 : Int32))]) (rest := []) (v := some (.int v38.1)) (h1 := v38.2) (x_A_exchange hf hI k0 e39) wv_C_37 k0 kc_1 (by decide +kernel) rfl rfl ⟨⟨Nat.le_of_ble_eq_true rfl, Nat.le_of_ble_eq_true rfl⟩, ⟨Nat.le_of_ble_eq_true rfl, Nat.le_of_ble_eq_true rfl⟩⟩ (Nat.le_of_ble_eq_true rfl) ?_
    show Go l D ad aC (rmk m_C_takeTurn) _ m_C_takeTurn 198 [some (.ref a0), some (.int x1), some (.int (x1 / (16 : Int32)))] [.int v38.1] v38.2 0 0
    refine Go.run (pc' := 199) [.pop] (ls' := [some (.ref a0), some (.int x1), some (.int (x1 / (16 : Int32)))]) (st' := []) (by decide +kernel) rfl rfl ?_
    refine Go.goto (off := 32) (tgt := 231) (by decide +kernel) (by decide) ?_
    obtain rfl := Option.some.inj e
    exact Go.vret rfl (by decide) (by decide) (by decide +kernel)
  replace e := ite_f c37 e
  rcases Decidable.em ((x1 - x1 / (16 : Int32) * (16 : Int32)) = 13) with c40 | c40
  · replace e := ite_t c40 e
    refine Go.tsIn (dflt := 212) (lo := 0) (hi := 13) (offs := #[71, 85, 85, 109, 109, 109, 137, 137, 137, 137, 162, 174, 174, 193]) (len := 71) (off := 193) (tgt := 202) 13 (by decide +kernel) (by rw [c40]; decide) (by decide) (by decide) (by decide) (by decide) ?_
    refine Go.run (pc' := 214) [.aload_n 0, .iload_n 2, .bipush (6), .irem, .iload_n 2, .bipush (8), .idiv, .bipush (12), .irem] (ls' := [some (.ref a0), some (.int x1), some (.int (x1 / (16 : Int32)))]) (st' := [.int (((x1 / (16 : Int32)) / (8 : Int32)) - ((x1 / (16 : Int32)) / (8 : Int32)) / (12 : Int32) * (12 : Int32)), .int ((x1 / (16 : Int32)) - (x1 / (16 : Int32)) / (6 : Int32) * (6 : Int32)), .ref a0]) (by decide +kernel) rfl rfl ?_
    obtain ⟨v41, e42, e⟩ := bd_inv e
    refine Go.callV (M2 := m_A_changeSetting) (a := a0) (as := [.int ((x1 / (16 : Int32)) - (x1 / (16 : Int32)) / (6 : Int32) * (6 : Int32)), .int (((x1 / (16 : Int32)) / (8 : Int32)) - ((x1 / (16 : Int32)) / (8 : Int32)) / (12 : Int32) * (12 : Int32))]) (rest := []) (v := some (.int v41.1)) (h1 := v41.2) (x_A_changeSetting hf hI k0 e42) wv_C_44 k0 kc_1 (by decide +kernel) rfl rfl ⟨⟨Nat.le_of_ble_eq_true rfl, Nat.le_of_ble_eq_true rfl⟩, ⟨Nat.le_of_ble_eq_true rfl, Nat.le_of_ble_eq_true rfl⟩⟩ (Nat.le_of_ble_eq_true rfl) ?_
    show Go l D ad aC (rmk m_C_takeTurn) _ m_C_takeTurn 217 [some (.ref a0), some (.int x1), some (.int (x1 / (16 : Int32)))] [.int v41.1] v41.2 0 0
    refine Go.run (pc' := 218) [.pop] (ls' := [some (.ref a0), some (.int x1), some (.int (x1 / (16 : Int32)))]) (st' := []) (by decide +kernel) rfl rfl ?_
    refine Go.goto (off := 13) (tgt := 231) (by decide +kernel) (by decide) ?_
    obtain rfl := Option.some.inj e
    exact Go.vret rfl (by decide) (by decide) (by decide +kernel)
  replace e := ite_f c40 e
  refine Go.tsOut (dflt := 212) (lo := 0) (hi := 13) (offs := #[71, 85, 85, 109, 109, 109, 137, 137, 137, 137, 162, 174, 174, 193]) (len := 71) (tgt := 221) (by decide +kernel) (by have zc1 := lv_neT c1 (a := 0) rfl; have zc4 := lv_neT c4 (a := 1) rfl; have zc7 := lv_neT c7 (a := 2) rfl; have zc10 := lv_neT c10 (a := 3) rfl; have zc13 := lv_neT c13 (a := 4) rfl; have zc16 := lv_neT c16 (a := 5) rfl; have zc19 := lv_neT c19 (a := 6) rfl; have zc22 := lv_neT c22 (a := 7) rfl; have zc25 := lv_neT c25 (a := 8) rfl; have zc28 := lv_neT c28 (a := 9) rfl; have zc31 := lv_neT c31 (a := 10) rfl; have zc34 := lv_neT c34 (a := 11) rfl; have zc37 := lv_neT c37 (a := 12) rfl; have zc40 := lv_neT c40 (a := 13) rfl; omega) (by decide) ?_
  refine Go.run (pc' := 227) [.aload_n 0, .iconst 1, .iload_n 2, .iconst 5, .irem, .iadd] (ls' := [some (.ref a0), some (.int x1), some (.int (x1 / (16 : Int32)))]) (st' := [.int ((1 : Int32) + ((x1 / (16 : Int32)) - (x1 / (16 : Int32)) / (5 : Int32) * (5 : Int32))), .ref a0]) (by decide +kernel) rfl rfl ?_
  obtain ⟨v43, e44, e⟩ := bd_inv e
  refine Go.callV (M2 := m_A_passDays) (a := a0) (as := [.int ((1 : Int32) + ((x1 / (16 : Int32)) - (x1 / (16 : Int32)) / (5 : Int32) * (5 : Int32)))]) (rest := []) (v := some (.int v43.1)) (h1 := v43.2) (x_A_passDays hf hI k0 e44) wv_C_41 k0 kc_1 (by decide +kernel) rfl rfl ⟨⟨Nat.le_of_ble_eq_true rfl, Nat.le_of_ble_eq_true rfl⟩, ⟨Nat.le_of_ble_eq_true rfl, Nat.le_of_ble_eq_true rfl⟩⟩ (Nat.le_of_ble_eq_true rfl) ?_
  show Go l D ad aC (rmk m_C_takeTurn) _ m_C_takeTurn 230 [some (.ref a0), some (.int x1), some (.int (x1 / (16 : Int32)))] [.int v43.1] v43.2 0 0
  refine Go.run (pc' := 231) [.pop] (ls' := [some (.ref a0), some (.int x1), some (.int (x1 / (16 : Int32)))]) (st' := []) (by decide +kernel) rfl rfl ?_
  obtain rfl := Option.some.inj e
  exact Go.vret rfl (by decide) (by decide) (by decide +kernel)
