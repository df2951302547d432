/-! printed by wip/p31/gen.py: what FairWalls$State compute, and the rows that tie it to the machine -/
def f_S_clear (h : HP) (a0 : Nat) : Option (HP) :=
  (f_R_fill h (fld a0 0) (0 : Int32)).bind fun v1 =>
  (f_R_fill v1 (fld a0 1) (0 : Int32)).bind fun v3 =>
  (f_R_fill v3 (fld a0 2) (0 : Int32)).bind fun v5 =>
  (f_R_fill v5 (fld a0 3) (0 : Int32)).bind fun v7 =>
  (f_R_fill v7 (fld a0 4) (0 : Int32)).bind fun v9 =>
  (f_R_fill v9 (fld a0 5) (-1 : Int32)).bind fun v11 =>
  (f_R_fill v11 (fld a0 6) (-1 : Int32)).bind fun v13 =>
  (f_R_fill v13 (fld a0 7) (0 : Int32)).bind fun v15 =>
  (some (hrow v15 (fld a0 8) (cpy0 (sarr 212) (v15 (fld a0 8)) 6))).bind fun h17 =>
  (some (hset h17 a0 9 (0 : Int32))).bind fun h19 =>
  (some (hset h19 a0 10 (0 : Int32))).bind fun h21 =>
  (some (hset h21 a0 11 (0 : Int32))).bind fun h23 =>
  (some (hset h23 a0 12 (0 : Int32))).bind fun h25 =>
  (some (hset h25 a0 13 (0 : Int32))).bind fun h27 =>
  some h27
set_option maxHeartbeats 1000000 in
theorem x_S_clear {l : Launch} {D : va_G} {ad : Nat → Nat} {aC : Nat → ClassId} (hf : l.flags = flags0) (hI : Inj ad) {h : HP} {a0 : Nat} {r : HP} (k0 : knd a0 = 6) (e : f_S_clear h a0 = some r) : CT l D ad aC m_S_clear [.ref a0] h (.inl none) r := by
  refine CT.ofGo (by decide +kernel) rfl (Nat.le_of_ble_eq_true rfl) ?_
  unfold f_S_clear at e
  show Go l D ad aC (rmk m_S_clear) _ m_S_clear 0 [some (.ref a0)] [] h 0 0
  refine Go.run (pc' := 1) [.aload_n 0] (ls' := [some (.ref a0)]) (st' := [.ref a0]) (by decide +kernel) rfl rfl ?_
  refine Go.getR fo_S_9 k0 (by decide +kernel) ?_
  refine Go.run (pc' := 5) [.iconst 0] (ls' := [some (.ref a0)]) (st' := [.int (0 : Int32), .ref (fld a0 0)]) (by decide +kernel) rfl rfl ?_
  obtain ⟨v1, e2, e⟩ := bd_inv e
  refine Go.callS (M2 := m_R_fill) (as := [.ref (fld a0 0), .int (0 : Int32)]) (rest := []) (v := none) (h1 := v1) (x_R_fill hf hI (kf_6_j 0 k0 (by decide)) (al_6_j 0 k0 (by decide) rfl) e2) ws_S_42 (by decide +kernel) rfl rfl ⟨⟨Nat.le_of_ble_eq_true rfl, Nat.le_of_ble_eq_true rfl⟩, ⟨Nat.le_of_ble_eq_true rfl, Nat.le_of_ble_eq_true rfl⟩⟩ (Nat.le_of_ble_eq_true rfl) ?_
  show Go l D ad aC (rmk m_S_clear) _ m_S_clear 8 [some (.ref a0)] [] v1 0 0
  refine Go.run (pc' := 9) [.aload_n 0] (ls' := [some (.ref a0)]) (st' := [.ref a0]) (by decide +kernel) rfl rfl ?_
  refine Go.getR fo_S_15 k0 (by decide +kernel) ?_
  refine Go.run (pc' := 13) [.iconst 0] (ls' := [some (.ref a0)]) (st' := [.int (0 : Int32), .ref (fld a0 1)]) (by decide +kernel) rfl rfl ?_
  obtain ⟨v3, e4, e⟩ := bd_inv e
  refine Go.callS (M2 := m_R_fill) (as := [.ref (fld a0 1), .int (0 : Int32)]) (rest := []) (v := none) (h1 := v3) (x_R_fill hf hI (kf_6_j 1 k0 (by decide)) (al_6_j 1 k0 (by decide) rfl) e4) ws_S_42 (by decide +kernel) rfl rfl ⟨⟨Nat.le_of_ble_eq_true rfl, Nat.le_of_ble_eq_true rfl⟩, ⟨Nat.le_of_ble_eq_true rfl, Nat.le_of_ble_eq_true rfl⟩⟩ (Nat.le_of_ble_eq_true rfl) ?_
  show Go l D ad aC (rmk m_S_clear) _ m_S_clear 16 [some (.ref a0)] [] v3 0 0
  refine Go.run (pc' := 17) [.aload_n 0] (ls' := [some (.ref a0)]) (st' := [.ref a0]) (by decide +kernel) rfl rfl ?_
  refine Go.getR fo_S_18 k0 (by decide +kernel) ?_
  refine Go.run (pc' := 21) [.iconst 0] (ls' := [some (.ref a0)]) (st' := [.int (0 : Int32), .ref (fld a0 2)]) (by decide +kernel) rfl rfl ?_
  obtain ⟨v5, e6, e⟩ := bd_inv e
  refine Go.callS (M2 := m_R_fill) (as := [.ref (fld a0 2), .int (0 : Int32)]) (rest := []) (v := none) (h1 := v5) (x_R_fill hf hI (kf_6_j 2 k0 (by decide)) (al_6_j 2 k0 (by decide) rfl) e6) ws_S_42 (by decide +kernel) rfl rfl ⟨⟨Nat.le_of_ble_eq_true rfl, Nat.le_of_ble_eq_true rfl⟩, ⟨Nat.le_of_ble_eq_true rfl, Nat.le_of_ble_eq_true rfl⟩⟩ (Nat.le_of_ble_eq_true rfl) ?_
  show Go l D ad aC (rmk m_S_clear) _ m_S_clear 24 [some (.ref a0)] [] v5 0 0
  refine Go.run (pc' := 25) [.aload_n 0] (ls' := [some (.ref a0)]) (st' := [.ref a0]) (by decide +kernel) rfl rfl ?_
  refine Go.getR fo_S_21 k0 (by decide +kernel) ?_
  refine Go.run (pc' := 29) [.iconst 0] (ls' := [some (.ref a0)]) (st' := [.int (0 : Int32), .ref (fld a0 3)]) (by decide +kernel) rfl rfl ?_
  obtain ⟨v7, e8, e⟩ := bd_inv e
  refine Go.callS (M2 := m_R_fill) (as := [.ref (fld a0 3), .int (0 : Int32)]) (rest := []) (v := none) (h1 := v7) (x_R_fill hf hI (kf_6_j 3 k0 (by decide)) (al_6_j 3 k0 (by decide) rfl) e8) ws_S_42 (by decide +kernel) rfl rfl ⟨⟨Nat.le_of_ble_eq_true rfl, Nat.le_of_ble_eq_true rfl⟩, ⟨Nat.le_of_ble_eq_true rfl, Nat.le_of_ble_eq_true rfl⟩⟩ (Nat.le_of_ble_eq_true rfl) ?_
  show Go l D ad aC (rmk m_S_clear) _ m_S_clear 32 [some (.ref a0)] [] v7 0 0
  refine Go.run (pc' := 33) [.aload_n 0] (ls' := [some (.ref a0)]) (st' := [.ref a0]) (by decide +kernel) rfl rfl ?_
  refine Go.getR fo_S_24 k0 (by decide +kernel) ?_
  refine Go.run (pc' := 37) [.iconst 0] (ls' := [some (.ref a0)]) (st' := [.int (0 : Int32), .ref (fld a0 4)]) (by decide +kernel) rfl rfl ?_
  obtain ⟨v9, e10, e⟩ := bd_inv e
  refine Go.callS (M2 := m_R_fill) (as := [.ref (fld a0 4), .int (0 : Int32)]) (rest := []) (v := none) (h1 := v9) (x_R_fill hf hI (kf_6_j 4 k0 (by decide)) (al_6_j 4 k0 (by decide) rfl) e10) ws_S_42 (by decide +kernel) rfl rfl ⟨⟨Nat.le_of_ble_eq_true rfl, Nat.le_of_ble_eq_true rfl⟩, ⟨Nat.le_of_ble_eq_true rfl, Nat.le_of_ble_eq_true rfl⟩⟩ (Nat.le_of_ble_eq_true rfl) ?_
  show Go l D ad aC (rmk m_S_clear) _ m_S_clear 40 [some (.ref a0)] [] v9 0 0
  refine Go.run (pc' := 41) [.aload_n 0] (ls' := [some (.ref a0)]) (st' := [.ref a0]) (by decide +kernel) rfl rfl ?_
  refine Go.getR fo_S_27 k0 (by decide +kernel) ?_
  refine Go.run (pc' := 45) [.iconst (-1)] (ls' := [some (.ref a0)]) (st' := [.int (-1 : Int32), .ref (fld a0 5)]) (by decide +kernel) rfl rfl ?_
  obtain ⟨v11, e12, e⟩ := bd_inv e
  refine Go.callS (M2 := m_R_fill) (as := [.ref (fld a0 5), .int (-1 : Int32)]) (rest := []) (v := none) (h1 := v11) (x_R_fill hf hI (kf_6_j 5 k0 (by decide)) (al_6_j 5 k0 (by decide) rfl) e12) ws_S_42 (by decide +kernel) rfl rfl ⟨⟨Nat.le_of_ble_eq_true rfl, Nat.le_of_ble_eq_true rfl⟩, ⟨Nat.le_of_ble_eq_true rfl, Nat.le_of_ble_eq_true rfl⟩⟩ (Nat.le_of_ble_eq_true rfl) ?_
  show Go l D ad aC (rmk m_S_clear) _ m_S_clear 48 [some (.ref a0)] [] v11 0 0
  refine Go.run (pc' := 49) [.aload_n 0] (ls' := [some (.ref a0)]) (st' := [.ref a0]) (by decide +kernel) rfl rfl ?_
  refine Go.getR fo_S_30 k0 (by decide +kernel) ?_
  refine Go.run (pc' := 53) [.iconst (-1)] (ls' := [some (.ref a0)]) (st' := [.int (-1 : Int32), .ref (fld a0 6)]) (by decide +kernel) rfl rfl ?_
  obtain ⟨v13, e14, e⟩ := bd_inv e
  refine Go.callS (M2 := m_R_fill) (as := [.ref (fld a0 6), .int (-1 : Int32)]) (rest := []) (v := none) (h1 := v13) (x_R_fill hf hI (kf_6_j 6 k0 (by decide)) (al_6_j 6 k0 (by decide) rfl) e14) ws_S_42 (by decide +kernel) rfl rfl ⟨⟨Nat.le_of_ble_eq_true rfl, Nat.le_of_ble_eq_true rfl⟩, ⟨Nat.le_of_ble_eq_true rfl, Nat.le_of_ble_eq_true rfl⟩⟩ (Nat.le_of_ble_eq_true rfl) ?_
  show Go l D ad aC (rmk m_S_clear) _ m_S_clear 56 [some (.ref a0)] [] v13 0 0
  refine Go.run (pc' := 57) [.aload_n 0] (ls' := [some (.ref a0)]) (st' := [.ref a0]) (by decide +kernel) rfl rfl ?_
  refine Go.getR fo_S_33 k0 (by decide +kernel) ?_
  refine Go.run (pc' := 61) [.iconst 0] (ls' := [some (.ref a0)]) (st' := [.int (0 : Int32), .ref (fld a0 7)]) (by decide +kernel) rfl rfl ?_
  obtain ⟨v15, e16, e⟩ := bd_inv e
  refine Go.callS (M2 := m_R_fill) (as := [.ref (fld a0 7), .int (0 : Int32)]) (rest := []) (v := none) (h1 := v15) (x_R_fill hf hI (kf_6_j 7 k0 (by decide)) (al_6_j 7 k0 (by decide) rfl) e16) ws_S_42 (by decide +kernel) rfl rfl ⟨⟨Nat.le_of_ble_eq_true rfl, Nat.le_of_ble_eq_true rfl⟩, ⟨Nat.le_of_ble_eq_true rfl, Nat.le_of_ble_eq_true rfl⟩⟩ (Nat.le_of_ble_eq_true rfl) ?_
  show Go l D ad aC (rmk m_S_clear) _ m_S_clear 64 [some (.ref a0)] [] v15 0 0
  refine Go.gets so_S_48 (by decide +kernel) ?_
  refine Go.run (pc' := 69) [.iconst 0, .aload_n 0] (ls' := [some (.ref a0)]) (st' := [.ref a0, .int (0 : Int32), .ref 212]) (by decide +kernel) rfl rfl ?_
  refine Go.getR fo_S_36 k0 (by decide +kernel) ?_
  refine Go.run (pc' := 75) [.iconst 0, .bipush (6)] (ls' := [some (.ref a0)]) (st' := [.int (6 : Int32), .int (0 : Int32), .ref (fld a0 8), .int (0 : Int32), .ref 212]) (by decide +kernel) rfl rfl ?_
  refine goCopyS (N' := 6) hI (by decide) (by decide) (kf_6_j 8 k0 (by decide)) (al_6_j 8 k0 (by decide) rfl) rfl (by decide) (by decide) (by decide) no_S_51 (by decide) (Nat.le_of_ble_eq_true rfl) (by decide +kernel) ?_
  obtain ⟨h17, q18, e⟩ := bd_inv e
  refine Go.eqH (Option.some.inj q18) ?_
  refine Go.run (pc' := 80) [.aload_n 0, .iconst 0] (ls' := [some (.ref a0)]) (st' := [.int (0 : Int32), .ref a0]) (by decide +kernel) rfl rfl ?_
  refine Go.put hI po_S_57 k0 (nar_i _) (fit_i _) (by decide +kernel) ?_
  obtain ⟨h19, q20, e⟩ := bd_inv e
  refine Go.eqH (Option.some.inj q20) ?_
  refine Go.run (pc' := 85) [.aload_n 0, .iconst 0] (ls' := [some (.ref a0)]) (st' := [.int (0 : Int32), .ref a0]) (by decide +kernel) rfl rfl ?_
  refine Go.put hI po_S_61 k0 (nar_i _) (fit_i _) (by decide +kernel) ?_
  obtain ⟨h21, q22, e⟩ := bd_inv e
  refine Go.eqH (Option.some.inj q22) ?_
  refine Go.run (pc' := 90) [.aload_n 0, .iconst 0] (ls' := [some (.ref a0)]) (st' := [.int (0 : Int32), .ref a0]) (by decide +kernel) rfl rfl ?_
  refine Go.put hI po_S_64 k0 (nar_i _) (fit_i _) (by decide +kernel) ?_
  obtain ⟨h23, q24, e⟩ := bd_inv e
  refine Go.eqH (Option.some.inj q24) ?_
  refine Go.run (pc' := 95) [.aload_n 0, .iconst 0] (ls' := [some (.ref a0)]) (st' := [.int (0 : Int32), .ref a0]) (by decide +kernel) rfl rfl ?_
  refine Go.put hI po_S_67 k0 (nar_i _) (fit_i _) (by decide +kernel) ?_
  obtain ⟨h25, q26, e⟩ := bd_inv e
  refine Go.eqH (Option.some.inj q26) ?_
  refine Go.run (pc' := 100) [.aload_n 0, .iconst 0] (ls' := [some (.ref a0)]) (st' := [.int (0 : Int32), .ref a0]) (by decide +kernel) rfl rfl ?_
  refine Go.put hI po_S_70 k0 (nar_i _) (fit_i _) (by decide +kernel) ?_
  obtain ⟨h27, q28, e⟩ := bd_inv e
  refine Go.eqH (Option.some.inj q28) ?_
  obtain rfl := Option.some.inj e
  exact Go.vret rfl (by decide) (by decide) (by decide +kernel)
def f_S_copy (h : HP) (a0 : Nat) (a1 : Nat) : Option (HP) :=
  (some (hrow h (fld a0 0) (cpy0 (h (fld a1 0)) (h (fld a0 0)) 4))).bind fun h1 =>
  (some (hrow h1 (fld a0 1) (cpy0 (h1 (fld a1 1)) (h1 (fld a0 1)) 120))).bind fun h3 =>
  (some (hrow h3 (fld a0 2) (cpy0 (h3 (fld a1 2)) (h3 (fld a0 2)) 10))).bind fun h5 =>
  (some (hrow h5 (fld a0 3) (cpy0 (h5 (fld a1 3)) (h5 (fld a0 3)) 10))).bind fun h7 =>
  (some (hrow h7 (fld a0 4) (cpy0 (h7 (fld a1 4)) (h7 (fld a0 4)) 10))).bind fun h9 =>
  (some (hrow h9 (fld a0 5) (cpy0 (h9 (fld a1 5)) (h9 (fld a0 5)) 10))).bind fun h11 =>
  (some (hrow h11 (fld a0 6) (cpy0 (h11 (fld a1 6)) (h11 (fld a0 6)) 10))).bind fun h13 =>
  (some (hrow h13 (fld a0 7) (cpy0 (h13 (fld a1 7)) (h13 (fld a0 7)) 10))).bind fun h15 =>
  (some (hrow h15 (fld a0 8) (cpy0 (h15 (fld a1 8)) (h15 (fld a0 8)) 6))).bind fun h17 =>
  (some (hset h17 a0 9 (h17 a1 9))).bind fun h19 =>
  (some (hset h19 a0 10 (h19 a1 10))).bind fun h21 =>
  (some (hset h21 a0 11 (h21 a1 11))).bind fun h23 =>
  (some (hset h23 a0 12 (h23 a1 12))).bind fun h25 =>
  (some (hset h25 a0 13 (h25 a1 13))).bind fun h27 =>
  some h27
set_option maxHeartbeats 1000000 in
theorem x_S_copy {l : Launch} {D : va_G} {ad : Nat → Nat} {aC : Nat → ClassId} (hf : l.flags = flags0) (hI : Inj ad) {h : HP} {a0 : Nat} {a1 : Nat} {r : HP} (k0 : knd a0 = 6) (k1 : knd a1 = 6) (e : f_S_copy h a0 a1 = some r) : CT l D ad aC m_S_copy [.ref a0, .ref a1] h (.inl none) r := by
  refine CT.ofGo (by decide +kernel) rfl (Nat.le_of_ble_eq_true rfl) ?_
  unfold f_S_copy at e
  show Go l D ad aC (rmk m_S_copy) _ m_S_copy 0 [some (.ref a0), some (.ref a1)] [] h 0 0
  refine Go.run (pc' := 1) [.aload_n 1] (ls' := [some (.ref a0), some (.ref a1)]) (st' := [.ref a1]) (by decide +kernel) rfl rfl ?_
  refine Go.getR fo_S_9 k1 (by decide +kernel) ?_
  refine Go.run (pc' := 6) [.iconst 0, .aload_n 0] (ls' := [some (.ref a0), some (.ref a1)]) (st' := [.ref a0, .int (0 : Int32), .ref (fld a1 0)]) (by decide +kernel) rfl rfl ?_
  refine Go.getR fo_S_9 k0 (by decide +kernel) ?_
  refine Go.run (pc' := 11) [.iconst 0, .iconst 4] (ls' := [some (.ref a0), some (.ref a1)]) (st' := [.int (4 : Int32), .int (0 : Int32), .ref (fld a0 0), .int (0 : Int32), .ref (fld a1 0)]) (by decide +kernel) rfl rfl ?_
  refine Go.copy (N' := 4) hI (kf_6_j 0 k1 (by decide)) (al_6_j 0 k1 (by decide) rfl) (kf_6_j 0 k0 (by decide)) (al_6_j 0 k0 (by decide) rfl) rfl (by decide) (by decide) (by decide) no_S_51 (by decide) (Nat.le_of_ble_eq_true rfl) (by decide +kernel) ?_
  obtain ⟨h1, q2, e⟩ := bd_inv e
  refine Go.eqH (Option.some.inj q2) ?_
  refine Go.run (pc' := 15) [.aload_n 1] (ls' := [some (.ref a0), some (.ref a1)]) (st' := [.ref a1]) (by decide +kernel) rfl rfl ?_
  refine Go.getR fo_S_15 k1 (by decide +kernel) ?_
  refine Go.run (pc' := 20) [.iconst 0, .aload_n 0] (ls' := [some (.ref a0), some (.ref a1)]) (st' := [.ref a0, .int (0 : Int32), .ref (fld a1 1)]) (by decide +kernel) rfl rfl ?_
  refine Go.getR fo_S_15 k0 (by decide +kernel) ?_
  refine Go.run (pc' := 26) [.iconst 0, .bipush (120)] (ls' := [some (.ref a0), some (.ref a1)]) (st' := [.int (120 : Int32), .int (0 : Int32), .ref (fld a0 1), .int (0 : Int32), .ref (fld a1 1)]) (by decide +kernel) rfl rfl ?_
  refine Go.copy (N' := 120) hI (kf_6_j 1 k1 (by decide)) (al_6_j 1 k1 (by decide) rfl) (kf_6_j 1 k0 (by decide)) (al_6_j 1 k0 (by decide) rfl) rfl (by decide) (by decide) (by decide) no_S_51 (by decide) (Nat.le_of_ble_eq_true rfl) (by decide +kernel) ?_
  obtain ⟨h3, q4, e⟩ := bd_inv e
  refine Go.eqH (Option.some.inj q4) ?_
  refine Go.run (pc' := 30) [.aload_n 1] (ls' := [some (.ref a0), some (.ref a1)]) (st' := [.ref a1]) (by decide +kernel) rfl rfl ?_
  refine Go.getR fo_S_18 k1 (by decide +kernel) ?_
  refine Go.run (pc' := 35) [.iconst 0, .aload_n 0] (ls' := [some (.ref a0), some (.ref a1)]) (st' := [.ref a0, .int (0 : Int32), .ref (fld a1 2)]) (by decide +kernel) rfl rfl ?_
  refine Go.getR fo_S_18 k0 (by decide +kernel) ?_
  refine Go.run (pc' := 41) [.iconst 0, .bipush (10)] (ls' := [some (.ref a0), some (.ref a1)]) (st' := [.int (10 : Int32), .int (0 : Int32), .ref (fld a0 2), .int (0 : Int32), .ref (fld a1 2)]) (by decide +kernel) rfl rfl ?_
  refine Go.copy (N' := 10) hI (kf_6_j 2 k1 (by decide)) (al_6_j 2 k1 (by decide) rfl) (kf_6_j 2 k0 (by decide)) (al_6_j 2 k0 (by decide) rfl) rfl (by decide) (by decide) (by decide) no_S_51 (by decide) (Nat.le_of_ble_eq_true rfl) (by decide +kernel) ?_
  obtain ⟨h5, q6, e⟩ := bd_inv e
  refine Go.eqH (Option.some.inj q6) ?_
  refine Go.run (pc' := 45) [.aload_n 1] (ls' := [some (.ref a0), some (.ref a1)]) (st' := [.ref a1]) (by decide +kernel) rfl rfl ?_
  refine Go.getR fo_S_21 k1 (by decide +kernel) ?_
  refine Go.run (pc' := 50) [.iconst 0, .aload_n 0] (ls' := [some (.ref a0), some (.ref a1)]) (st' := [.ref a0, .int (0 : Int32), .ref (fld a1 3)]) (by decide +kernel) rfl rfl ?_
  refine Go.getR fo_S_21 k0 (by decide +kernel) ?_
  refine Go.run (pc' := 56) [.iconst 0, .bipush (10)] (ls' := [some (.ref a0), some (.ref a1)]) (st' := [.int (10 : Int32), .int (0 : Int32), .ref (fld a0 3), .int (0 : Int32), .ref (fld a1 3)]) (by decide +kernel) rfl rfl ?_
  refine Go.copy (N' := 10) hI (kf_6_j 3 k1 (by decide)) (al_6_j 3 k1 (by decide) rfl) (kf_6_j 3 k0 (by decide)) (al_6_j 3 k0 (by decide) rfl) rfl (by decide) (by decide) (by decide) no_S_51 (by decide) (Nat.le_of_ble_eq_true rfl) (by decide +kernel) ?_
  obtain ⟨h7, q8, e⟩ := bd_inv e
  refine Go.eqH (Option.some.inj q8) ?_
  refine Go.run (pc' := 60) [.aload_n 1] (ls' := [some (.ref a0), some (.ref a1)]) (st' := [.ref a1]) (by decide +kernel) rfl rfl ?_
  refine Go.getR fo_S_24 k1 (by decide +kernel) ?_
  refine Go.run (pc' := 65) [.iconst 0, .aload_n 0] (ls' := [some (.ref a0), some (.ref a1)]) (st' := [.ref a0, .int (0 : Int32), .ref (fld a1 4)]) (by decide +kernel) rfl rfl ?_
  refine Go.getR fo_S_24 k0 (by decide +kernel) ?_
  refine Go.run (pc' := 71) [.iconst 0, .bipush (10)] (ls' := [some (.ref a0), some (.ref a1)]) (st' := [.int (10 : Int32), .int (0 : Int32), .ref (fld a0 4), .int (0 : Int32), .ref (fld a1 4)]) (by decide +kernel) rfl rfl ?_
  refine Go.copy (N' := 10) hI (kf_6_j 4 k1 (by decide)) (al_6_j 4 k1 (by decide) rfl) (kf_6_j 4 k0 (by decide)) (al_6_j 4 k0 (by decide) rfl) rfl (by decide) (by decide) (by decide) no_S_51 (by decide) (Nat.le_of_ble_eq_true rfl) (by decide +kernel) ?_
  obtain ⟨h9, q10, e⟩ := bd_inv e
  refine Go.eqH (Option.some.inj q10) ?_
  refine Go.run (pc' := 75) [.aload_n 1] (ls' := [some (.ref a0), some (.ref a1)]) (st' := [.ref a1]) (by decide +kernel) rfl rfl ?_
  refine Go.getR fo_S_27 k1 (by decide +kernel) ?_
  refine Go.run (pc' := 80) [.iconst 0, .aload_n 0] (ls' := [some (.ref a0), some (.ref a1)]) (st' := [.ref a0, .int (0 : Int32), .ref (fld a1 5)]) (by decide +kernel) rfl rfl ?_
  refine Go.getR fo_S_27 k0 (by decide +kernel) ?_
  refine Go.run (pc' := 86) [.iconst 0, .bipush (10)] (ls' := [some (.ref a0), some (.ref a1)]) (st' := [.int (10 : Int32), .int (0 : Int32), .ref (fld a0 5), .int (0 : Int32), .ref (fld a1 5)]) (by decide +kernel) rfl rfl ?_
  refine Go.copy (N' := 10) hI (kf_6_j 5 k1 (by decide)) (al_6_j 5 k1 (by decide) rfl) (kf_6_j 5 k0 (by decide)) (al_6_j 5 k0 (by decide) rfl) rfl (by decide) (by decide) (by decide) no_S_51 (by decide) (Nat.le_of_ble_eq_true rfl) (by decide +kernel) ?_
  obtain ⟨h11, q12, e⟩ := bd_inv e
  refine Go.eqH (Option.some.inj q12) ?_
  refine Go.run (pc' := 90) [.aload_n 1] (ls' := [some (.ref a0), some (.ref a1)]) (st' := [.ref a1]) (by decide +kernel) rfl rfl ?_
  refine Go.getR fo_S_30 k1 (by decide +kernel) ?_
  refine Go.run (pc' := 95) [.iconst 0, .aload_n 0] (ls' := [some (.ref a0), some (.ref a1)]) (st' := [.ref a0, .int (0 : Int32), .ref (fld a1 6)]) (by decide +kernel) rfl rfl ?_
  refine Go.getR fo_S_30 k0 (by decide +kernel) ?_
  refine Go.run (pc' := 101) [.iconst 0, .bipush (10)] (ls' := [some (.ref a0), some (.ref a1)]) (st' := [.int (10 : Int32), .int (0 : Int32), .ref (fld a0 6), .int (0 : Int32), .ref (fld a1 6)]) (by decide +kernel) rfl rfl ?_
  refine Go.copy (N' := 10) hI (kf_6_j 6 k1 (by decide)) (al_6_j 6 k1 (by decide) rfl) (kf_6_j 6 k0 (by decide)) (al_6_j 6 k0 (by decide) rfl) rfl (by decide) (by decide) (by decide) no_S_51 (by decide) (Nat.le_of_ble_eq_true rfl) (by decide +kernel) ?_
  obtain ⟨h13, q14, e⟩ := bd_inv e
  refine Go.eqH (Option.some.inj q14) ?_
  refine Go.run (pc' := 105) [.aload_n 1] (ls' := [some (.ref a0), some (.ref a1)]) (st' := [.ref a1]) (by decide +kernel) rfl rfl ?_
  refine Go.getR fo_S_33 k1 (by decide +kernel) ?_
  refine Go.run (pc' := 110) [.iconst 0, .aload_n 0] (ls' := [some (.ref a0), some (.ref a1)]) (st' := [.ref a0, .int (0 : Int32), .ref (fld a1 7)]) (by decide +kernel) rfl rfl ?_
  refine Go.getR fo_S_33 k0 (by decide +kernel) ?_
  refine Go.run (pc' := 116) [.iconst 0, .bipush (10)] (ls' := [some (.ref a0), some (.ref a1)]) (st' := [.int (10 : Int32), .int (0 : Int32), .ref (fld a0 7), .int (0 : Int32), .ref (fld a1 7)]) (by decide +kernel) rfl rfl ?_
  refine Go.copy (N' := 10) hI (kf_6_j 7 k1 (by decide)) (al_6_j 7 k1 (by decide) rfl) (kf_6_j 7 k0 (by decide)) (al_6_j 7 k0 (by decide) rfl) rfl (by decide) (by decide) (by decide) no_S_51 (by decide) (Nat.le_of_ble_eq_true rfl) (by decide +kernel) ?_
  obtain ⟨h15, q16, e⟩ := bd_inv e
  refine Go.eqH (Option.some.inj q16) ?_
  refine Go.run (pc' := 120) [.aload_n 1] (ls' := [some (.ref a0), some (.ref a1)]) (st' := [.ref a1]) (by decide +kernel) rfl rfl ?_
  refine Go.getR fo_S_36 k1 (by decide +kernel) ?_
  refine Go.run (pc' := 125) [.iconst 0, .aload_n 0] (ls' := [some (.ref a0), some (.ref a1)]) (st' := [.ref a0, .int (0 : Int32), .ref (fld a1 8)]) (by decide +kernel) rfl rfl ?_
  refine Go.getR fo_S_36 k0 (by decide +kernel) ?_
  refine Go.run (pc' := 131) [.iconst 0, .bipush (6)] (ls' := [some (.ref a0), some (.ref a1)]) (st' := [.int (6 : Int32), .int (0 : Int32), .ref (fld a0 8), .int (0 : Int32), .ref (fld a1 8)]) (by decide +kernel) rfl rfl ?_
  refine Go.copy (N' := 6) hI (kf_6_j 8 k1 (by decide)) (al_6_j 8 k1 (by decide) rfl) (kf_6_j 8 k0 (by decide)) (al_6_j 8 k0 (by decide) rfl) rfl (by decide) (by decide) (by decide) no_S_51 (by decide) (Nat.le_of_ble_eq_true rfl) (by decide +kernel) ?_
  obtain ⟨h17, q18, e⟩ := bd_inv e
  refine Go.eqH (Option.some.inj q18) ?_
  refine Go.run (pc' := 136) [.aload_n 0, .aload_n 1] (ls' := [some (.ref a0), some (.ref a1)]) (st' := [.ref a1, .ref a0]) (by decide +kernel) rfl rfl ?_
  refine Go.getI fo_S_57 k1 (by decide +kernel) ?_
  refine Go.put hI po_S_57 k0 (nar_i _) (fit_i _) (by decide +kernel) ?_
  obtain ⟨h19, q20, e⟩ := bd_inv e
  refine Go.eqH (Option.some.inj q20) ?_
  refine Go.run (pc' := 144) [.aload_n 0, .aload_n 1] (ls' := [some (.ref a0), some (.ref a1)]) (st' := [.ref a1, .ref a0]) (by decide +kernel) rfl rfl ?_
  refine Go.getI fo_S_61 k1 (by decide +kernel) ?_
  refine Go.put hI po_S_61 k0 (nar_i _) (fit_i _) (by decide +kernel) ?_
  obtain ⟨h21, q22, e⟩ := bd_inv e
  refine Go.eqH (Option.some.inj q22) ?_
  refine Go.run (pc' := 152) [.aload_n 0, .aload_n 1] (ls' := [some (.ref a0), some (.ref a1)]) (st' := [.ref a1, .ref a0]) (by decide +kernel) rfl rfl ?_
  refine Go.getI fo_S_64 k1 (by decide +kernel) ?_
  refine Go.put hI po_S_64 k0 (nar_i _) (fit_i _) (by decide +kernel) ?_
  obtain ⟨h23, q24, e⟩ := bd_inv e
  refine Go.eqH (Option.some.inj q24) ?_
  refine Go.run (pc' := 160) [.aload_n 0, .aload_n 1] (ls' := [some (.ref a0), some (.ref a1)]) (st' := [.ref a1, .ref a0]) (by decide +kernel) rfl rfl ?_
  refine Go.getI fo_S_67 k1 (by decide +kernel) ?_
  refine Go.put hI po_S_67 k0 (nar_i _) (fit_i _) (by decide +kernel) ?_
  obtain ⟨h25, q26, e⟩ := bd_inv e
  refine Go.eqH (Option.some.inj q26) ?_
  refine Go.run (pc' := 168) [.aload_n 0, .aload_n 1] (ls' := [some (.ref a0), some (.ref a1)]) (st' := [.ref a1, .ref a0]) (by decide +kernel) rfl rfl ?_
  refine Go.getI fo_S_70 k1 (by decide +kernel) ?_
  refine Go.put hI po_S_70 k0 (nar_i _) (fit_i _) (by decide +kernel) ?_
  obtain ⟨h27, q28, e⟩ := bd_inv e
  refine Go.eqH (Option.some.inj q28) ?_
  obtain rfl := Option.some.inj e
  exact Go.vret rfl (by decide) (by decide) (by decide +kernel)
def f_S_hasWall (h : HP) (a0 : Nat) (x1 : Int32) : Option (Int32) :=
  if x1 < 0 then
    some (0 : Int32)
  else
    if (h a0 9) ≤ x1 then
      some (0 : Int32)
    else
      if (4 : Int32) ≤ x1 then
        some (0 : Int32)
      else
        some (1 : Int32)
set_option maxHeartbeats 1000000 in
theorem x_S_hasWall {l : Launch} {D : va_G} {ad : Nat → Nat} {aC : Nat → ClassId} (hf : l.flags = flags0) (hI : Inj ad) {h : HP} {a0 : Nat} {x1 : Int32} {r : Int32} (k0 : knd a0 = 6) (e : f_S_hasWall h a0 x1 = some r) : CT l D ad aC m_S_hasWall [.ref a0, .int x1] h (.inl (some (.int r))) h := by
  refine CT.ofGo (by decide +kernel) rfl (Nat.le_of_ble_eq_true rfl) ?_
  unfold f_S_hasWall at e
  show Go l D ad aC (rmk m_S_hasWall) _ m_S_hasWall 0 [some (.ref a0), some (.int x1)] [] h 0 0
  refine Go.run (pc' := 1) [.iload_n 1] (ls' := [some (.ref a0), some (.int x1)]) (st' := [.int x1]) (by decide +kernel) rfl rfl ?_
  refine Go.if_lt (off := 20) (tgt := 21) (by decide +kernel) (by decide) (fun c1 => ?_) (fun c1 => ?_)
  · replace e := ite_t c1 e
    refine Go.run (pc' := 22) [.iconst 0] (ls' := [some (.ref a0), some (.int x1)]) (st' := [.int (0 : Int32)]) (by decide +kernel) rfl rfl ?_
    obtain rfl := Option.some.inj e
    exact Go.zret rfl nar_z0 (by decide) (by decide) (by decide +kernel)
  · replace e := ite_f c1 e
    refine Go.run (pc' := 6) [.iload_n 1, .aload_n 0] (ls' := [some (.ref a0), some (.int x1)]) (st' := [.ref a0, .int x1]) (by decide +kernel) rfl rfl ?_
    refine Go.getI fo_S_57 k0 (by decide +kernel) ?_
    refine Go.ic_ge (off := 12) (tgt := 21) (by decide +kernel) (by decide) (fun c2 => ?_) (fun c2 => ?_)
    · replace e := ite_t c2 e
      refine Go.run (pc' := 22) [.iconst 0] (ls' := [some (.ref a0), some (.int x1)]) (st' := [.int (0 : Int32)]) (by decide +kernel) rfl rfl ?_
      obtain rfl := Option.some.inj e
      exact Go.zret rfl nar_z0 (by decide) (by decide) (by decide +kernel)
    · replace e := ite_f c2 e
      refine Go.run (pc' := 14) [.iload_n 1, .iconst 4] (ls' := [some (.ref a0), some (.int x1)]) (st' := [.int (4 : Int32), .int x1]) (by decide +kernel) rfl rfl ?_
      refine Go.ic_ge (off := 7) (tgt := 21) (by decide +kernel) (by decide) (fun c3 => ?_) (fun c3 => ?_)
      · replace e := ite_t c3 e
        refine Go.run (pc' := 22) [.iconst 0] (ls' := [some (.ref a0), some (.int x1)]) (st' := [.int (0 : Int32)]) (by decide +kernel) rfl rfl ?_
        obtain rfl := Option.some.inj e
        exact Go.zret rfl nar_z0 (by decide) (by decide) (by decide +kernel)
      · replace e := ite_f c3 e
        refine Go.run (pc' := 18) [.iconst 1] (ls' := [some (.ref a0), some (.int x1)]) (st' := [.int (1 : Int32)]) (by decide +kernel) rfl rfl ?_
        refine Go.goto (off := 4) (tgt := 22) (by decide +kernel) (by decide) ?_
        obtain rfl := Option.some.inj e
        exact Go.zret rfl nar_z1 (by decide) (by decide) (by decide +kernel)
def f_S_hasMetre (h : HP) (a0 : Nat) (x1 : Int32) (x2 : Int32) : Option (Int32) :=
  if x1 < 0 then
    some (0 : Int32)
  else
    if (h a0 9) ≤ x1 then
      some (0 : Int32)
    else
      if (4 : Int32) ≤ x1 then
        some (0 : Int32)
      else
        if x2 < 0 then
          some (0 : Int32)
        else
          if ib x1 4 = true then
          if (h (fld a0 0) x1.toNatClampNeg) ≤ x2 then
            some (0 : Int32)
          else
            if (30 : Int32) ≤ x2 then
              some (0 : Int32)
            else
              some (1 : Int32)
          else none
set_option maxHeartbeats 1000000 in
theorem x_S_hasMetre {l : Launch} {D : va_G} {ad : Nat → Nat} {aC : Nat → ClassId} (hf : l.flags = flags0) (hI : Inj ad) {h : HP} {a0 : Nat} {x1 : Int32} {x2 : Int32} {r : Int32} (k0 : knd a0 = 6) (e : f_S_hasMetre h a0 x1 x2 = some r) : CT l D ad aC m_S_hasMetre [.ref a0, .int x1, .int x2] h (.inl (some (.int r))) h := by
  refine CT.ofGo (by decide +kernel) rfl (Nat.le_of_ble_eq_true rfl) ?_
  unfold f_S_hasMetre at e
  show Go l D ad aC (rmk m_S_hasMetre) _ m_S_hasMetre 0 [some (.ref a0), some (.int x1), some (.int x2)] [] h 0 0
  refine Go.run (pc' := 1) [.iload_n 1] (ls' := [some (.ref a0), some (.int x1), some (.int x2)]) (st' := [.int x1]) (by decide +kernel) rfl rfl ?_
  refine Go.if_lt (off := 40) (tgt := 41) (by decide +kernel) (by decide) (fun c1 => ?_) (fun c1 => ?_)
  · replace e := ite_t c1 e
    refine Go.run (pc' := 42) [.iconst 0] (ls' := [some (.ref a0), some (.int x1), some (.int x2)]) (st' := [.int (0 : Int32)]) (by decide +kernel) rfl rfl ?_
    obtain rfl := Option.some.inj e
    exact Go.zret rfl nar_z0 (by decide) (by decide) (by decide +kernel)
  · replace e := ite_f c1 e
    refine Go.run (pc' := 6) [.iload_n 1, .aload_n 0] (ls' := [some (.ref a0), some (.int x1), some (.int x2)]) (st' := [.ref a0, .int x1]) (by decide +kernel) rfl rfl ?_
    refine Go.getI fo_S_57 k0 (by decide +kernel) ?_
    refine Go.ic_ge (off := 32) (tgt := 41) (by decide +kernel) (by decide) (fun c2 => ?_) (fun c2 => ?_)
    · replace e := ite_t c2 e
      refine Go.run (pc' := 42) [.iconst 0] (ls' := [some (.ref a0), some (.int x1), some (.int x2)]) (st' := [.int (0 : Int32)]) (by decide +kernel) rfl rfl ?_
      obtain rfl := Option.some.inj e
      exact Go.zret rfl nar_z0 (by decide) (by decide) (by decide +kernel)
    · replace e := ite_f c2 e
      refine Go.run (pc' := 14) [.iload_n 1, .iconst 4] (ls' := [some (.ref a0), some (.int x1), some (.int x2)]) (st' := [.int (4 : Int32), .int x1]) (by decide +kernel) rfl rfl ?_
      refine Go.ic_ge (off := 27) (tgt := 41) (by decide +kernel) (by decide) (fun c3 => ?_) (fun c3 => ?_)
      · replace e := ite_t c3 e
        refine Go.run (pc' := 42) [.iconst 0] (ls' := [some (.ref a0), some (.int x1), some (.int x2)]) (st' := [.int (0 : Int32)]) (by decide +kernel) rfl rfl ?_
        obtain rfl := Option.some.inj e
        exact Go.zret rfl nar_z0 (by decide) (by decide) (by decide +kernel)
      · replace e := ite_f c3 e
        refine Go.run (pc' := 18) [.iload_n 2] (ls' := [some (.ref a0), some (.int x1), some (.int x2)]) (st' := [.int x2]) (by decide +kernel) rfl rfl ?_
        refine Go.if_lt (off := 23) (tgt := 41) (by decide +kernel) (by decide) (fun c4 => ?_) (fun c4 => ?_)
        · replace e := ite_t c4 e
          refine Go.run (pc' := 42) [.iconst 0] (ls' := [some (.ref a0), some (.int x1), some (.int x2)]) (st' := [.int (0 : Int32)]) (by decide +kernel) rfl rfl ?_
          obtain rfl := Option.some.inj e
          exact Go.zret rfl nar_z0 (by decide) (by decide) (by decide +kernel)
        · replace e := ite_f c4 e
          refine Go.run (pc' := 23) [.iload_n 2, .aload_n 0] (ls' := [some (.ref a0), some (.int x1), some (.int x2)]) (st' := [.ref a0, .int x2]) (by decide +kernel) rfl rfl ?_
          refine Go.getR fo_S_9 k0 (by decide +kernel) ?_
          refine Go.run (pc' := 27) [.iload_n 1] (ls' := [some (.ref a0), some (.int x1), some (.int x2)]) (st' := [.int x1, .ref (fld a0 0), .int x2]) (by decide +kernel) rfl rfl ?_
          obtain ⟨g5, e⟩ := gd_inv e
          refine Go.iald (kf_6_j 0 k0 (by decide)) (al_6_j 0 k0 (by decide) rfl) g5 (by decide +kernel) ?_
          refine Go.ic_ge (off := 13) (tgt := 41) (by decide +kernel) (by decide) (fun c6 => ?_) (fun c6 => ?_)
          · replace e := ite_t c6 e
            refine Go.run (pc' := 42) [.iconst 0] (ls' := [some (.ref a0), some (.int x1), some (.int x2)]) (st' := [.int (0 : Int32)]) (by decide +kernel) rfl rfl ?_
            obtain rfl := Option.some.inj e
            exact Go.zret rfl nar_z0 (by decide) (by decide) (by decide +kernel)
          · replace e := ite_f c6 e
            refine Go.run (pc' := 34) [.iload_n 2, .bipush (30)] (ls' := [some (.ref a0), some (.int x1), some (.int x2)]) (st' := [.int (30 : Int32), .int x2]) (by decide +kernel) rfl rfl ?_
            refine Go.ic_ge (off := 7) (tgt := 41) (by decide +kernel) (by decide) (fun c7 => ?_) (fun c7 => ?_)
            · replace e := ite_t c7 e
              refine Go.run (pc' := 42) [.iconst 0] (ls' := [some (.ref a0), some (.int x1), some (.int x2)]) (st' := [.int (0 : Int32)]) (by decide +kernel) rfl rfl ?_
              obtain rfl := Option.some.inj e
              exact Go.zret rfl nar_z0 (by decide) (by decide) (by decide +kernel)
            · replace e := ite_f c7 e
              refine Go.run (pc' := 38) [.iconst 1] (ls' := [some (.ref a0), some (.int x1), some (.int x2)]) (st' := [.int (1 : Int32)]) (by decide +kernel) rfl rfl ?_
              refine Go.goto (off := 4) (tgt := 42) (by decide +kernel) (by decide) ?_
              obtain rfl := Option.some.inj e
              exact Go.zret rfl nar_z1 (by decide) (by decide) (by decide +kernel)
def f_S_hasDealer (h : HP) (a0 : Nat) (x1 : Int32) : Option (Int32) :=
  if x1 < 0 then
    some (0 : Int32)
  else
    if (h a0 10) ≤ x1 then
      some (0 : Int32)
    else
      if (10 : Int32) ≤ x1 then
        some (0 : Int32)
      else
        some (1 : Int32)
set_option maxHeartbeats 1000000 in
theorem x_S_hasDealer {l : Launch} {D : va_G} {ad : Nat → Nat} {aC : Nat → ClassId} (hf : l.flags = flags0) (hI : Inj ad) {h : HP} {a0 : Nat} {x1 : Int32} {r : Int32} (k0 : knd a0 = 6) (e : f_S_hasDealer h a0 x1 = some r) : CT l D ad aC m_S_hasDealer [.ref a0, .int x1] h (.inl (some (.int r))) h := by
  refine CT.ofGo (by decide +kernel) rfl (Nat.le_of_ble_eq_true rfl) ?_
  unfold f_S_hasDealer at e
  show Go l D ad aC (rmk m_S_hasDealer) _ m_S_hasDealer 0 [some (.ref a0), some (.int x1)] [] h 0 0
  refine Go.run (pc' := 1) [.iload_n 1] (ls' := [some (.ref a0), some (.int x1)]) (st' := [.int x1]) (by decide +kernel) rfl rfl ?_
  refine Go.if_lt (off := 21) (tgt := 22) (by decide +kernel) (by decide) (fun c1 => ?_) (fun c1 => ?_)
  · replace e := ite_t c1 e
    refine Go.run (pc' := 23) [.iconst 0] (ls' := [some (.ref a0), some (.int x1)]) (st' := [.int (0 : Int32)]) (by decide +kernel) rfl rfl ?_
    obtain rfl := Option.some.inj e
    exact Go.zret rfl nar_z0 (by decide) (by decide) (by decide +kernel)
  · replace e := ite_f c1 e
    refine Go.run (pc' := 6) [.iload_n 1, .aload_n 0] (ls' := [some (.ref a0), some (.int x1)]) (st' := [.ref a0, .int x1]) (by decide +kernel) rfl rfl ?_
    refine Go.getI fo_S_61 k0 (by decide +kernel) ?_
    refine Go.ic_ge (off := 13) (tgt := 22) (by decide +kernel) (by decide) (fun c2 => ?_) (fun c2 => ?_)
    · replace e := ite_t c2 e
      refine Go.run (pc' := 23) [.iconst 0] (ls' := [some (.ref a0), some (.int x1)]) (st' := [.int (0 : Int32)]) (by decide +kernel) rfl rfl ?_
      obtain rfl := Option.some.inj e
      exact Go.zret rfl nar_z0 (by decide) (by decide) (by decide +kernel)
    · replace e := ite_f c2 e
      refine Go.run (pc' := 15) [.iload_n 1, .bipush (10)] (ls' := [some (.ref a0), some (.int x1)]) (st' := [.int (10 : Int32), .int x1]) (by decide +kernel) rfl rfl ?_
      refine Go.ic_ge (off := 7) (tgt := 22) (by decide +kernel) (by decide) (fun c3 => ?_) (fun c3 => ?_)
      · replace e := ite_t c3 e
        refine Go.run (pc' := 23) [.iconst 0] (ls' := [some (.ref a0), some (.int x1)]) (st' := [.int (0 : Int32)]) (by decide +kernel) rfl rfl ?_
        obtain rfl := Option.some.inj e
        exact Go.zret rfl nar_z0 (by decide) (by decide) (by decide +kernel)
      · replace e := ite_f c3 e
        refine Go.run (pc' := 19) [.iconst 1] (ls' := [some (.ref a0), some (.int x1)]) (st' := [.int (1 : Int32)]) (by decide +kernel) rfl rfl ?_
        refine Go.goto (off := 4) (tgt := 23) (by decide +kernel) (by decide) ?_
        obtain rfl := Option.some.inj e
        exact Go.zret rfl nar_z1 (by decide) (by decide) (by decide +kernel)
def f_S_stands (h : HP) (a0 : Nat) (x1 : Int32) : Option (Int32) :=
  if x1 < 0 then
    some (0 : Int32)
  else
    if (h a0 10) ≤ x1 then
      some (0 : Int32)
    else
      if (10 : Int32) ≤ x1 then
        some (0 : Int32)
      else
        if ib x1 10 = true then
        if (h (fld a0 5) x1.toNatClampNeg) = (-1 : Int32) then
          some (0 : Int32)
        else
          some (1 : Int32)
        else none
set_option maxHeartbeats 1000000 in
theorem x_S_stands {l : Launch} {D : va_G} {ad : Nat → Nat} {aC : Nat → ClassId} (hf : l.flags = flags0) (hI : Inj ad) {h : HP} {a0 : Nat} {x1 : Int32} {r : Int32} (k0 : knd a0 = 6) (e : f_S_stands h a0 x1 = some r) : CT l D ad aC m_S_stands [.ref a0, .int x1] h (.inl (some (.int r))) h := by
  refine CT.ofGo (by decide +kernel) rfl (Nat.le_of_ble_eq_true rfl) ?_
  unfold f_S_stands at e
  show Go l D ad aC (rmk m_S_stands) _ m_S_stands 0 [some (.ref a0), some (.int x1)] [] h 0 0
  refine Go.run (pc' := 1) [.iload_n 1] (ls' := [some (.ref a0), some (.int x1)]) (st' := [.int x1]) (by decide +kernel) rfl rfl ?_
  refine Go.if_lt (off := 31) (tgt := 32) (by decide +kernel) (by decide) (fun c1 => ?_) (fun c1 => ?_)
  · replace e := ite_t c1 e
    refine Go.run (pc' := 33) [.iconst 0] (ls' := [some (.ref a0), some (.int x1)]) (st' := [.int (0 : Int32)]) (by decide +kernel) rfl rfl ?_
    obtain rfl := Option.some.inj e
    exact Go.zret rfl nar_z0 (by decide) (by decide) (by decide +kernel)
  · replace e := ite_f c1 e
    refine Go.run (pc' := 6) [.iload_n 1, .aload_n 0] (ls' := [some (.ref a0), some (.int x1)]) (st' := [.ref a0, .int x1]) (by decide +kernel) rfl rfl ?_
    refine Go.getI fo_S_61 k0 (by decide +kernel) ?_
    refine Go.ic_ge (off := 23) (tgt := 32) (by decide +kernel) (by decide) (fun c2 => ?_) (fun c2 => ?_)
    · replace e := ite_t c2 e
      refine Go.run (pc' := 33) [.iconst 0] (ls' := [some (.ref a0), some (.int x1)]) (st' := [.int (0 : Int32)]) (by decide +kernel) rfl rfl ?_
      obtain rfl := Option.some.inj e
      exact Go.zret rfl nar_z0 (by decide) (by decide) (by decide +kernel)
    · replace e := ite_f c2 e
      refine Go.run (pc' := 15) [.iload_n 1, .bipush (10)] (ls' := [some (.ref a0), some (.int x1)]) (st' := [.int (10 : Int32), .int x1]) (by decide +kernel) rfl rfl ?_
      refine Go.ic_ge (off := 17) (tgt := 32) (by decide +kernel) (by decide) (fun c3 => ?_) (fun c3 => ?_)
      · replace e := ite_t c3 e
        refine Go.run (pc' := 33) [.iconst 0] (ls' := [some (.ref a0), some (.int x1)]) (st' := [.int (0 : Int32)]) (by decide +kernel) rfl rfl ?_
        obtain rfl := Option.some.inj e
        exact Go.zret rfl nar_z0 (by decide) (by decide) (by decide +kernel)
      · replace e := ite_f c3 e
        refine Go.run (pc' := 19) [.aload_n 0] (ls' := [some (.ref a0), some (.int x1)]) (st' := [.ref a0]) (by decide +kernel) rfl rfl ?_
        refine Go.getR fo_S_27 k0 (by decide +kernel) ?_
        refine Go.run (pc' := 23) [.iload_n 1] (ls' := [some (.ref a0), some (.int x1)]) (st' := [.int x1, .ref (fld a0 5)]) (by decide +kernel) rfl rfl ?_
        obtain ⟨g4, e⟩ := gd_inv e
        refine Go.iald (kf_6_j 5 k0 (by decide)) (al_6_j 5 k0 (by decide) rfl) g4 (by decide +kernel) ?_
        refine Go.run (pc' := 25) [.iconst (-1)] (ls' := [some (.ref a0), some (.int x1)]) (st' := [.int (-1 : Int32), .int (h (fld a0 5) x1.toNatClampNeg)]) (by decide +kernel) rfl rfl ?_
        refine Go.ic_eq (off := 7) (tgt := 32) (by decide +kernel) (by decide) (fun c5 => ?_) (fun c5 => ?_)
        · replace e := ite_t c5 e
          refine Go.run (pc' := 33) [.iconst 0] (ls' := [some (.ref a0), some (.int x1)]) (st' := [.int (0 : Int32)]) (by decide +kernel) rfl rfl ?_
          obtain rfl := Option.some.inj e
          exact Go.zret rfl nar_z0 (by decide) (by decide) (by decide +kernel)
        · replace e := ite_f c5 e
          refine Go.run (pc' := 29) [.iconst 1] (ls' := [some (.ref a0), some (.int x1)]) (st' := [.int (1 : Int32)]) (by decide +kernel) rfl rfl ?_
          refine Go.goto (off := 4) (tgt := 33) (by decide +kernel) (by decide) ?_
          obtain rfl := Option.some.inj e
          exact Go.zret rfl nar_z1 (by decide) (by decide) (by decide +kernel)
def f_S_standsAt (h : HP) (a0 : Nat) (x1 : Int32) (x2 : Int32) : Option (Int32) :=
  if x1 < 0 then
    some (0 : Int32)
  else
    if (h a0 10) ≤ x1 then
      some (0 : Int32)
    else
      if (10 : Int32) ≤ x1 then
        some (0 : Int32)
      else
        if ib x1 10 = true then
        if (h (fld a0 5) x1.toNatClampNeg) = x2 then
          if x2 = (-1 : Int32) then
            some (0 : Int32)
          else
            some (1 : Int32)
        else
          some (0 : Int32)
        else none
set_option maxHeartbeats 1000000 in
theorem x_S_standsAt {l : Launch} {D : va_G} {ad : Nat → Nat} {aC : Nat → ClassId} (hf : l.flags = flags0) (hI : Inj ad) {h : HP} {a0 : Nat} {x1 : Int32} {x2 : Int32} {r : Int32} (k0 : knd a0 = 6) (e : f_S_standsAt h a0 x1 x2 = some r) : CT l D ad aC m_S_standsAt [.ref a0, .int x1, .int x2] h (.inl (some (.int r))) h := by
  refine CT.ofGo (by decide +kernel) rfl (Nat.le_of_ble_eq_true rfl) ?_
  unfold f_S_standsAt at e
  show Go l D ad aC (rmk m_S_standsAt) _ m_S_standsAt 0 [some (.ref a0), some (.int x1), some (.int x2)] [] h 0 0
  refine Go.run (pc' := 1) [.iload_n 1] (ls' := [some (.ref a0), some (.int x1), some (.int x2)]) (st' := [.int x1]) (by decide +kernel) rfl rfl ?_
  refine Go.if_lt (off := 36) (tgt := 37) (by decide +kernel) (by decide) (fun c1 => ?_) (fun c1 => ?_)
  · replace e := ite_t c1 e
    refine Go.run (pc' := 38) [.iconst 0] (ls' := [some (.ref a0), some (.int x1), some (.int x2)]) (st' := [.int (0 : Int32)]) (by decide +kernel) rfl rfl ?_
    obtain rfl := Option.some.inj e
    exact Go.zret rfl nar_z0 (by decide) (by decide) (by decide +kernel)
  · replace e := ite_f c1 e
    refine Go.run (pc' := 6) [.iload_n 1, .aload_n 0] (ls' := [some (.ref a0), some (.int x1), some (.int x2)]) (st' := [.ref a0, .int x1]) (by decide +kernel) rfl rfl ?_
    refine Go.getI fo_S_61 k0 (by decide +kernel) ?_
    refine Go.ic_ge (off := 28) (tgt := 37) (by decide +kernel) (by decide) (fun c2 => ?_) (fun c2 => ?_)
    · replace e := ite_t c2 e
      refine Go.run (pc' := 38) [.iconst 0] (ls' := [some (.ref a0), some (.int x1), some (.int x2)]) (st' := [.int (0 : Int32)]) (by decide +kernel) rfl rfl ?_
      obtain rfl := Option.some.inj e
      exact Go.zret rfl nar_z0 (by decide) (by decide) (by decide +kernel)
    · replace e := ite_f c2 e
      refine Go.run (pc' := 15) [.iload_n 1, .bipush (10)] (ls' := [some (.ref a0), some (.int x1), some (.int x2)]) (st' := [.int (10 : Int32), .int x1]) (by decide +kernel) rfl rfl ?_
      refine Go.ic_ge (off := 22) (tgt := 37) (by decide +kernel) (by decide) (fun c3 => ?_) (fun c3 => ?_)
      · replace e := ite_t c3 e
        refine Go.run (pc' := 38) [.iconst 0] (ls' := [some (.ref a0), some (.int x1), some (.int x2)]) (st' := [.int (0 : Int32)]) (by decide +kernel) rfl rfl ?_
        obtain rfl := Option.some.inj e
        exact Go.zret rfl nar_z0 (by decide) (by decide) (by decide +kernel)
      · replace e := ite_f c3 e
        refine Go.run (pc' := 19) [.aload_n 0] (ls' := [some (.ref a0), some (.int x1), some (.int x2)]) (st' := [.ref a0]) (by decide +kernel) rfl rfl ?_
        refine Go.getR fo_S_27 k0 (by decide +kernel) ?_
        refine Go.run (pc' := 23) [.iload_n 1] (ls' := [some (.ref a0), some (.int x1), some (.int x2)]) (st' := [.int x1, .ref (fld a0 5)]) (by decide +kernel) rfl rfl ?_
        obtain ⟨g4, e⟩ := gd_inv e
        refine Go.iald (kf_6_j 5 k0 (by decide)) (al_6_j 5 k0 (by decide) rfl) g4 (by decide +kernel) ?_
        refine Go.run (pc' := 25) [.iload_n 2] (ls' := [some (.ref a0), some (.int x1), some (.int x2)]) (st' := [.int x2, .int (h (fld a0 5) x1.toNatClampNeg)]) (by decide +kernel) rfl rfl ?_
        refine Go.ic_ne (off := 12) (tgt := 37) (by decide +kernel) (by decide) (fun c5 => ?_) (fun c5 => ?_)
        · replace e := ite_f c5 e
          refine Go.run (pc' := 38) [.iconst 0] (ls' := [some (.ref a0), some (.int x1), some (.int x2)]) (st' := [.int (0 : Int32)]) (by decide +kernel) rfl rfl ?_
          obtain rfl := Option.some.inj e
          exact Go.zret rfl nar_z0 (by decide) (by decide) (by decide +kernel)
        · replace e := ite_t c5 e
          refine Go.run (pc' := 30) [.iload_n 2, .iconst (-1)] (ls' := [some (.ref a0), some (.int x1), some (.int x2)]) (st' := [.int (-1 : Int32), .int x2]) (by decide +kernel) rfl rfl ?_
          refine Go.ic_eq (off := 7) (tgt := 37) (by decide +kernel) (by decide) (fun c6 => ?_) (fun c6 => ?_)
          · replace e := ite_t c6 e
            refine Go.run (pc' := 38) [.iconst 0] (ls' := [some (.ref a0), some (.int x1), some (.int x2)]) (st' := [.int (0 : Int32)]) (by decide +kernel) rfl rfl ?_
            obtain rfl := Option.some.inj e
            exact Go.zret rfl nar_z0 (by decide) (by decide) (by decide +kernel)
          · replace e := ite_f c6 e
            refine Go.run (pc' := 34) [.iconst 1] (ls' := [some (.ref a0), some (.int x1), some (.int x2)]) (st' := [.int (1 : Int32)]) (by decide +kernel) rfl rfl ?_
            refine Go.goto (off := 4) (tgt := 38) (by decide +kernel) (by decide) ?_
            obtain rfl := Option.some.inj e
            exact Go.zret rfl nar_z1 (by decide) (by decide) (by decide +kernel)
def f_S_lengthOf (h : HP) (a0 : Nat) (x1 : Int32) : Option (Int32) :=
  (f_S_hasWall h a0 x1).bind fun v1 =>
  if v1 = 0 then
    some (0 : Int32)
  else
    if ib x1 4 = true then
    some (h (fld a0 0) x1.toNatClampNeg)
    else none
set_option maxHeartbeats 1000000 in
theorem x_S_lengthOf {l : Launch} {D : va_G} {ad : Nat → Nat} {aC : Nat → ClassId} (hf : l.flags = flags0) (hI : Inj ad) {h : HP} {a0 : Nat} {x1 : Int32} {r : Int32} (k0 : knd a0 = 6) (e : f_S_lengthOf h a0 x1 = some r) : CT l D ad aC m_S_lengthOf [.ref a0, .int x1] h (.inl (some (.int r))) h := by
  refine CT.ofGo (by decide +kernel) rfl (Nat.le_of_ble_eq_true rfl) ?_
  unfold f_S_lengthOf at e
  show Go l D ad aC (rmk m_S_lengthOf) _ m_S_lengthOf 0 [some (.ref a0), some (.int x1)] [] h 0 0
  refine Go.run (pc' := 2) [.aload_n 0, .iload_n 1] (ls' := [some (.ref a0), some (.int x1)]) (st' := [.int x1, .ref a0]) (by decide +kernel) rfl rfl ?_
  obtain ⟨v1, e2, e⟩ := bd_inv e
  refine Go.callV (M2 := m_S_hasWall) (a := a0) (as := [.int x1]) (rest := []) (v := some (.int v1)) (h1 := h) (x_S_hasWall hf hI k0 e2) wv_S_73 k0 kc_6 (by decide +kernel) rfl rfl ⟨⟨Nat.le_of_ble_eq_true rfl, Nat.le_of_ble_eq_true rfl⟩, ⟨Nat.le_of_ble_eq_true rfl, Nat.le_of_ble_eq_true rfl⟩⟩ (Nat.le_of_ble_eq_true rfl) ?_
  show Go l D ad aC (rmk m_S_lengthOf) _ m_S_lengthOf 5 [some (.ref a0), some (.int x1)] [.int v1] h 0 0
  refine Go.if_eq (off := 12) (tgt := 17) (by decide +kernel) (by decide) (fun c3 => ?_) (fun c3 => ?_)
  · replace e := ite_t c3 e
    refine Go.run (pc' := 18) [.iconst 0] (ls' := [some (.ref a0), some (.int x1)]) (st' := [.int (0 : Int32)]) (by decide +kernel) rfl rfl ?_
    obtain rfl := Option.some.inj e
    exact Go.iret rfl (by decide) (by decide) (by decide +kernel)
  · replace e := ite_f c3 e
    refine Go.run (pc' := 9) [.aload_n 0] (ls' := [some (.ref a0), some (.int x1)]) (st' := [.ref a0]) (by decide +kernel) rfl rfl ?_
    refine Go.getR fo_S_9 k0 (by decide +kernel) ?_
    refine Go.run (pc' := 13) [.iload_n 1] (ls' := [some (.ref a0), some (.int x1)]) (st' := [.int x1, .ref (fld a0 0)]) (by decide +kernel) rfl rfl ?_
    obtain ⟨g4, e⟩ := gd_inv e
    refine Go.iald (kf_6_j 0 k0 (by decide)) (al_6_j 0 k0 (by decide) rfl) g4 (by decide +kernel) ?_
    refine Go.goto (off := 4) (tgt := 18) (by decide +kernel) (by decide) ?_
    obtain rfl := Option.some.inj e
    exact Go.iret rfl (by decide) (by decide) (by decide +kernel)
def f_S_plugsOf (h : HP) (a0 : Nat) (x1 : Int32) (x2 : Int32) : Option (Int32) :=
  (f_S_hasMetre h a0 x1 x2).bind fun v1 =>
  if v1 = 0 then
    some (0 : Int32)
  else
    if ib ((x1 * (30 : Int32)) + x2) 120 = true then
    some (h (fld a0 1) ((x1 * (30 : Int32)) + x2).toNatClampNeg)
    else none
set_option maxHeartbeats 1000000 in
theorem x_S_plugsOf {l : Launch} {D : va_G} {ad : Nat → Nat} {aC : Nat → ClassId} (hf : l.flags = flags0) (hI : Inj ad) {h : HP} {a0 : Nat} {x1 : Int32} {x2 : Int32} {r : Int32} (k0 : knd a0 = 6) (e : f_S_plugsOf h a0 x1 x2 = some r) : CT l D ad aC m_S_plugsOf [.ref a0, .int x1, .int x2] h (.inl (some (.int r))) h := by
  refine CT.ofGo (by decide +kernel) rfl (Nat.le_of_ble_eq_true rfl) ?_
  unfold f_S_plugsOf at e
  show Go l D ad aC (rmk m_S_plugsOf) _ m_S_plugsOf 0 [some (.ref a0), some (.int x1), some (.int x2)] [] h 0 0
  refine Go.run (pc' := 3) [.aload_n 0, .iload_n 1, .iload_n 2] (ls' := [some (.ref a0), some (.int x1), some (.int x2)]) (st' := [.int x2, .int x1, .ref a0]) (by decide +kernel) rfl rfl ?_
  obtain ⟨v1, e2, e⟩ := bd_inv e
  refine Go.callV (M2 := m_S_hasMetre) (a := a0) (as := [.int x1, .int x2]) (rest := []) (v := some (.int v1)) (h1 := h) (x_S_hasMetre hf hI k0 e2) wv_S_77 k0 kc_6 (by decide +kernel) rfl rfl ⟨⟨Nat.le_of_ble_eq_true rfl, Nat.le_of_ble_eq_true rfl⟩, ⟨Nat.le_of_ble_eq_true rfl, Nat.le_of_ble_eq_true rfl⟩⟩ (Nat.le_of_ble_eq_true rfl) ?_
  show Go l D ad aC (rmk m_S_plugsOf) _ m_S_plugsOf 6 [some (.ref a0), some (.int x1), some (.int x2)] [.int v1] h 0 0
  refine Go.if_eq (off := 17) (tgt := 23) (by decide +kernel) (by decide) (fun c3 => ?_) (fun c3 => ?_)
  · replace e := ite_t c3 e
    refine Go.run (pc' := 24) [.iconst 0] (ls' := [some (.ref a0), some (.int x1), some (.int x2)]) (st' := [.int (0 : Int32)]) (by decide +kernel) rfl rfl ?_
    obtain rfl := Option.some.inj e
    exact Go.iret rfl (by decide) (by decide) (by decide +kernel)
  · replace e := ite_f c3 e
    refine Go.run (pc' := 10) [.aload_n 0] (ls' := [some (.ref a0), some (.int x1), some (.int x2)]) (st' := [.ref a0]) (by decide +kernel) rfl rfl ?_
    refine Go.getR fo_S_15 k0 (by decide +kernel) ?_
    refine Go.run (pc' := 19) [.iload_n 1, .bipush (30), .imul, .iload_n 2, .iadd] (ls' := [some (.ref a0), some (.int x1), some (.int x2)]) (st' := [.int ((x1 * (30 : Int32)) + x2), .ref (fld a0 1)]) (by decide +kernel) rfl rfl ?_
    obtain ⟨g4, e⟩ := gd_inv e
    refine Go.iald (kf_6_j 1 k0 (by decide)) (al_6_j 1 k0 (by decide) rfl) g4 (by decide +kernel) ?_
    refine Go.goto (off := 4) (tgt := 24) (by decide +kernel) (by decide) ?_
    obtain rfl := Option.some.inj e
    exact Go.iret rfl (by decide) (by decide) (by decide +kernel)
