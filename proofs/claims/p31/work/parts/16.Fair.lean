/-! printed by wip/p31/gen.py: what FairWalls$Fair compute, and the rows that tie it to the machine -/
def f_A_isLength (h : HP) (x0 : Int32) : Option (Int32) :=
  (f_F_inRange h x0 (4 : Int32) (30 : Int32)).bind fun v1 =>
  if isB v1 = true then
  some v1
  else none
set_option maxHeartbeats 1000000 in
theorem x_A_isLength {l : Launch} {D : va_G} {ad : Nat → Nat} {aC : Nat → ClassId} (hf : l.flags = flags0) (hI : Inj ad) {h : HP} {x0 : Int32} {r : Int32}  (e : f_A_isLength h x0 = some r) : CT l D ad aC m_A_isLength [.int x0] h (.inl (some (.int r))) h := by
  refine CT.ofGo (by decide +kernel) rfl (Nat.le_of_ble_eq_true rfl) ?_
  unfold f_A_isLength at e
  show Go l D ad aC (rmk m_A_isLength) _ m_A_isLength 0 [some (.int x0)] [] h 0 0
  refine Go.run (pc' := 4) [.iload_n 0, .iconst 4, .bipush (30)] (ls' := [some (.int x0)]) (st' := [.int (30 : Int32), .int (4 : Int32), .int x0]) (by decide +kernel) rfl rfl ?_
  obtain ⟨v1, e2, e⟩ := bd_inv e
  refine Go.callN (M2 := m_F_inRange) (as := [.int x0, .int (4 : Int32), .int (30 : Int32)]) (rest := []) (v := some (.int v1)) (h1 := h) (x_F_inRange hf hI  e2) wn_A_25 (by decide +kernel) rfl rfl ⟨⟨Nat.le_of_ble_eq_true rfl, Nat.le_of_ble_eq_true rfl⟩, ⟨Nat.le_of_ble_eq_true rfl, Nat.le_of_ble_eq_true rfl⟩⟩ (Nat.le_of_ble_eq_true rfl) ?_
  show Go l D ad aC (rmk m_A_isLength) _ m_A_isLength 7 [some (.int x0)] [.int v1] h 0 0
  obtain ⟨g3, e⟩ := gd_inv e
  obtain rfl := Option.some.inj e
  exact Go.zret rfl (isB_nar g3) (by decide) (by decide) (by decide +kernel)
def f_A_isDealer (h : HP) (x0 : Int32) (x1 : Int32) (x2 : Int32) : Option (Int32) :=
  (f_F_inRange h x0 (0 : Int32) (5 : Int32)).bind fun v1 =>
  if v1 = 0 then
    some (0 : Int32)
  else
    (f_F_inRange h x1 (1 : Int32) (9 : Int32)).bind fun v4 =>
    if v4 = 0 then
      some (0 : Int32)
    else
      (f_F_inRange h x2 (0 : Int32) (3 : Int32)).bind fun v7 =>
      if v7 = 0 then
        some (0 : Int32)
      else
        some (1 : Int32)
set_option maxHeartbeats 1000000 in
theorem x_A_isDealer {l : Launch} {D : va_G} {ad : Nat → Nat} {aC : Nat → ClassId} (hf : l.flags = flags0) (hI : Inj ad) {h : HP} {x0 : Int32} {x1 : Int32} {x2 : Int32} {r : Int32}  (e : f_A_isDealer h x0 x1 x2 = some r) : CT l D ad aC m_A_isDealer [.int x0, .int x1, .int x2] h (.inl (some (.int r))) h := by
  refine CT.ofGo (by decide +kernel) rfl (Nat.le_of_ble_eq_true rfl) ?_
  unfold f_A_isDealer at e
  show Go l D ad aC (rmk m_A_isDealer) _ m_A_isDealer 0 [some (.int x0), some (.int x1), some (.int x2)] [] h 0 0
  refine Go.run (pc' := 3) [.iload_n 0, .iconst 0, .iconst 5] (ls' := [some (.int x0), some (.int x1), some (.int x2)]) (st' := [.int (5 : Int32), .int (0 : Int32), .int x0]) (by decide +kernel) rfl rfl ?_
  obtain ⟨v1, e2, e⟩ := bd_inv e
  refine Go.callN (M2 := m_F_inRange) (as := [.int x0, .int (0 : Int32), .int (5 : Int32)]) (rest := []) (v := some (.int v1)) (h1 := h) (x_F_inRange hf hI  e2) wn_A_25 (by decide +kernel) rfl rfl ⟨⟨Nat.le_of_ble_eq_true rfl, Nat.le_of_ble_eq_true rfl⟩, ⟨Nat.le_of_ble_eq_true rfl, Nat.le_of_ble_eq_true rfl⟩⟩ (Nat.le_of_ble_eq_true rfl) ?_
  show Go l D ad aC (rmk m_A_isDealer) _ m_A_isDealer 6 [some (.int x0), some (.int x1), some (.int x2)] [.int v1] h 0 0
  refine Go.if_eq (off := 26) (tgt := 32) (by decide +kernel) (by decide) (fun c3 => ?_) (fun c3 => ?_)
  · replace e := ite_t c3 e
    refine Go.run (pc' := 33) [.iconst 0] (ls' := [some (.int x0), some (.int x1), some (.int x2)]) (st' := [.int (0 : Int32)]) (by decide +kernel) rfl rfl ?_
    obtain rfl := Option.some.inj e
    exact Go.zret rfl nar_z0 (by decide) (by decide) (by decide +kernel)
  · replace e := ite_f c3 e
    refine Go.run (pc' := 13) [.iload_n 1, .iconst 1, .bipush (9)] (ls' := [some (.int x0), some (.int x1), some (.int x2)]) (st' := [.int (9 : Int32), .int (1 : Int32), .int x1]) (by decide +kernel) rfl rfl ?_
    obtain ⟨v4, e5, e⟩ := bd_inv e
    refine Go.callN (M2 := m_F_inRange) (as := [.int x1, .int (1 : Int32), .int (9 : Int32)]) (rest := []) (v := some (.int v4)) (h1 := h) (x_F_inRange hf hI  e5) wn_A_25 (by decide +kernel) rfl rfl ⟨⟨Nat.le_of_ble_eq_true rfl, Nat.le_of_ble_eq_true rfl⟩, ⟨Nat.le_of_ble_eq_true rfl, Nat.le_of_ble_eq_true rfl⟩⟩ (Nat.le_of_ble_eq_true rfl) ?_
    show Go l D ad aC (rmk m_A_isDealer) _ m_A_isDealer 16 [some (.int x0), some (.int x1), some (.int x2)] [.int v4] h 0 0
    refine Go.if_eq (off := 16) (tgt := 32) (by decide +kernel) (by decide) (fun c6 => ?_) (fun c6 => ?_)
    · replace e := ite_t c6 e
      refine Go.run (pc' := 33) [.iconst 0] (ls' := [some (.int x0), some (.int x1), some (.int x2)]) (st' := [.int (0 : Int32)]) (by decide +kernel) rfl rfl ?_
      obtain rfl := Option.some.inj e
      exact Go.zret rfl nar_z0 (by decide) (by decide) (by decide +kernel)
    · replace e := ite_f c6 e
      refine Go.run (pc' := 22) [.iload_n 2, .iconst 0, .iconst 3] (ls' := [some (.int x0), some (.int x1), some (.int x2)]) (st' := [.int (3 : Int32), .int (0 : Int32), .int x2]) (by decide +kernel) rfl rfl ?_
      obtain ⟨v7, e8, e⟩ := bd_inv e
      refine Go.callN (M2 := m_F_inRange) (as := [.int x2, .int (0 : Int32), .int (3 : Int32)]) (rest := []) (v := some (.int v7)) (h1 := h) (x_F_inRange hf hI  e8) wn_A_25 (by decide +kernel) rfl rfl ⟨⟨Nat.le_of_ble_eq_true rfl, Nat.le_of_ble_eq_true rfl⟩, ⟨Nat.le_of_ble_eq_true rfl, Nat.le_of_ble_eq_true rfl⟩⟩ (Nat.le_of_ble_eq_true rfl) ?_
      show Go l D ad aC (rmk m_A_isDealer) _ m_A_isDealer 25 [some (.int x0), some (.int x1), some (.int x2)] [.int v7] h 0 0
      refine Go.if_eq (off := 7) (tgt := 32) (by decide +kernel) (by decide) (fun c9 => ?_) (fun c9 => ?_)
      · replace e := ite_t c9 e
        refine Go.run (pc' := 33) [.iconst 0] (ls' := [some (.int x0), some (.int x1), some (.int x2)]) (st' := [.int (0 : Int32)]) (by decide +kernel) rfl rfl ?_
        obtain rfl := Option.some.inj e
        exact Go.zret rfl nar_z0 (by decide) (by decide) (by decide +kernel)
      · replace e := ite_f c9 e
        refine Go.run (pc' := 29) [.iconst 1] (ls' := [some (.int x0), some (.int x1), some (.int x2)]) (st' := [.int (1 : Int32)]) (by decide +kernel) rfl rfl ?_
        refine Go.goto (off := 4) (tgt := 33) (by decide +kernel) (by decide) ?_
        obtain rfl := Option.some.inj e
        exact Go.zret rfl nar_z1 (by decide) (by decide) (by decide +kernel)
def f_A_isSetting (h : HP) (x0 : Int32) (x1 : Int32) : Option (Int32) :=
  (f_F_inRange h x0 (0 : Int32) (5 : Int32)).bind fun v1 =>
  if v1 = 0 then
    some (0 : Int32)
  else
    if ib x0 6 = true then
    (f_F_inRange h x1 (0 : Int32) (sarr 213 x0.toNatClampNeg)).bind fun v5 =>
    if v5 = 0 then
      some (0 : Int32)
    else
      some (1 : Int32)
    else none
set_option maxHeartbeats 1000000 in
theorem x_A_isSetting {l : Launch} {D : va_G} {ad : Nat → Nat} {aC : Nat → ClassId} (hf : l.flags = flags0) (hI : Inj ad) {h : HP} {x0 : Int32} {x1 : Int32} {r : Int32}  (e : f_A_isSetting h x0 x1 = some r) : CT l D ad aC m_A_isSetting [.int x0, .int x1] h (.inl (some (.int r))) h := by
  refine CT.ofGo (by decide +kernel) rfl (Nat.le_of_ble_eq_true rfl) ?_
  unfold f_A_isSetting at e
  show Go l D ad aC (rmk m_A_isSetting) _ m_A_isSetting 0 [some (.int x0), some (.int x1)] [] h 0 0
  refine Go.run (pc' := 3) [.iload_n 0, .iconst 0, .iconst 5] (ls' := [some (.int x0), some (.int x1)]) (st' := [.int (5 : Int32), .int (0 : Int32), .int x0]) (by decide +kernel) rfl rfl ?_
  obtain ⟨v1, e2, e⟩ := bd_inv e
  refine Go.callN (M2 := m_F_inRange) (as := [.int x0, .int (0 : Int32), .int (5 : Int32)]) (rest := []) (v := some (.int v1)) (h1 := h) (x_F_inRange hf hI  e2) wn_A_25 (by decide +kernel) rfl rfl ⟨⟨Nat.le_of_ble_eq_true rfl, Nat.le_of_ble_eq_true rfl⟩, ⟨Nat.le_of_ble_eq_true rfl, Nat.le_of_ble_eq_true rfl⟩⟩ (Nat.le_of_ble_eq_true rfl) ?_
  show Go l D ad aC (rmk m_A_isSetting) _ m_A_isSetting 6 [some (.int x0), some (.int x1)] [.int v1] h 0 0
  refine Go.if_eq (off := 20) (tgt := 26) (by decide +kernel) (by decide) (fun c3 => ?_) (fun c3 => ?_)
  · replace e := ite_t c3 e
    refine Go.run (pc' := 27) [.iconst 0] (ls' := [some (.int x0), some (.int x1)]) (st' := [.int (0 : Int32)]) (by decide +kernel) rfl rfl ?_
    obtain rfl := Option.some.inj e
    exact Go.zret rfl nar_z0 (by decide) (by decide) (by decide +kernel)
  · replace e := ite_f c3 e
    refine Go.run (pc' := 11) [.iload_n 1, .iconst 0] (ls' := [some (.int x0), some (.int x1)]) (st' := [.int (0 : Int32), .int x1]) (by decide +kernel) rfl rfl ?_
    refine Go.gets so_A_29 (by decide +kernel) ?_
    refine Go.run (pc' := 15) [.iload_n 0] (ls' := [some (.int x0), some (.int x1)]) (st' := [.int x0, .ref 213, .int (0 : Int32), .int x1]) (by decide +kernel) rfl rfl ?_
    obtain ⟨g4, e⟩ := gd_inv e
    refine Go.sald (N := 6) (by decide) (by decide) rfl g4 (by decide +kernel) ?_
    obtain ⟨v5, e6, e⟩ := bd_inv e
    refine Go.callN (M2 := m_F_inRange) (as := [.int x1, .int (0 : Int32), .int (sarr 213 x0.toNatClampNeg)]) (rest := []) (v := some (.int v5)) (h1 := h) (x_F_inRange hf hI  e6) wn_A_25 (by decide +kernel) rfl rfl ⟨⟨Nat.le_of_ble_eq_true rfl, Nat.le_of_ble_eq_true rfl⟩, ⟨Nat.le_of_ble_eq_true rfl, Nat.le_of_ble_eq_true rfl⟩⟩ (Nat.le_of_ble_eq_true rfl) ?_
    show Go l D ad aC (rmk m_A_isSetting) _ m_A_isSetting 19 [some (.int x0), some (.int x1)] [.int v5] h 0 0
    refine Go.if_eq (off := 7) (tgt := 26) (by decide +kernel) (by decide) (fun c7 => ?_) (fun c7 => ?_)
    · replace e := ite_t c7 e
      refine Go.run (pc' := 27) [.iconst 0] (ls' := [some (.int x0), some (.int x1)]) (st' := [.int (0 : Int32)]) (by decide +kernel) rfl rfl ?_
      obtain rfl := Option.some.inj e
      exact Go.zret rfl nar_z0 (by decide) (by decide) (by decide +kernel)
    · replace e := ite_f c7 e
      refine Go.run (pc' := 23) [.iconst 1] (ls' := [some (.int x0), some (.int x1)]) (st' := [.int (1 : Int32)]) (by decide +kernel) rfl rfl ?_
      refine Go.goto (off := 4) (tgt := 27) (by decide +kernel) (by decide) ?_
      obtain rfl := Option.some.inj e
      exact Go.zret rfl nar_z1 (by decide) (by decide) (by decide +kernel)
def f_A_startAnew (h : HP) (a0 : Nat) : Option (HP) :=
  (f_S_clear h (fld a0 0)).bind fun v1 =>
  (f_W_shareOut v1 (fld a0 1) (fld a0 0)).bind fun v3 =>
  some v3
set_option maxHeartbeats 1000000 in
theorem x_A_startAnew {l : Launch} {D : va_G} {ad : Nat → Nat} {aC : Nat → ClassId} (hf : l.flags = flags0) (hI : Inj ad) {h : HP} {a0 : Nat} {r : HP} (k0 : knd a0 = 1) (e : f_A_startAnew h a0 = some r) : CT l D ad aC m_A_startAnew [.ref a0] h (.inl none) r := by
  refine CT.ofGo (by decide +kernel) rfl (Nat.le_of_ble_eq_true rfl) ?_
  unfold f_A_startAnew at e
  show Go l D ad aC (rmk m_A_startAnew) _ m_A_startAnew 0 [some (.ref a0)] [] h 0 0
  refine Go.run (pc' := 1) [.aload_n 0] (ls' := [some (.ref a0)]) (st' := [.ref a0]) (by decide +kernel) rfl rfl ?_
  refine Go.getR fo_A_12 k0 (by decide +kernel) ?_
  obtain ⟨v1, e2, e⟩ := bd_inv e
  refine Go.callV (M2 := m_S_clear) (a := (fld a0 0)) (as := []) (rest := []) (v := none) (h1 := v1) (x_S_clear hf hI (kf_1_0 k0) e2) wv_A_33 (kf_1_0 k0) kc_6 (by decide +kernel) rfl rfl ⟨⟨Nat.le_of_ble_eq_true rfl, Nat.le_of_ble_eq_true rfl⟩, ⟨Nat.le_of_ble_eq_true rfl, Nat.le_of_ble_eq_true rfl⟩⟩ (Nat.le_of_ble_eq_true rfl) ?_
  show Go l D ad aC (rmk m_A_startAnew) _ m_A_startAnew 7 [some (.ref a0)] [] v1 0 0
  refine Go.run (pc' := 8) [.aload_n 0] (ls' := [some (.ref a0)]) (st' := [.ref a0]) (by decide +kernel) rfl rfl ?_
  refine Go.getR fo_A_21 k0 (by decide +kernel) ?_
  refine Go.run (pc' := 12) [.aload_n 0] (ls' := [some (.ref a0)]) (st' := [.ref a0, .ref (fld a0 1)]) (by decide +kernel) rfl rfl ?_
  refine Go.getR fo_A_12 k0 (by decide +kernel) ?_
  obtain ⟨v3, e4, e⟩ := bd_inv e
  refine Go.callV (M2 := m_W_shareOut) (a := (fld a0 1)) (as := [.ref (fld a0 0)]) (rest := []) (v := none) (h1 := v3) (x_W_shareOut hf hI (kf_1_1 k0) (kf_1_0 k0) e4) wv_A_36 (kf_1_1 k0) kc_4 (by decide +kernel) rfl rfl ⟨⟨Nat.le_of_ble_eq_true rfl, Nat.le_of_ble_eq_true rfl⟩, ⟨Nat.le_of_ble_eq_true rfl, Nat.le_of_ble_eq_true rfl⟩⟩ (Nat.le_of_ble_eq_true rfl) ?_
  show Go l D ad aC (rmk m_A_startAnew) _ m_A_startAnew 18 [some (.ref a0)] [] v3 0 0
  obtain rfl := Option.some.inj e
  exact Go.vret rfl (by decide) (by decide) (by decide +kernel)
def f_A_become (h : HP) (a0 : Nat) (a1 : Nat) : Option (HP) :=
  (f_S_copy h (fld a0 0) a1).bind fun v1 =>
  (f_W_shareOut v1 (fld a0 1) (fld a0 0)).bind fun v3 =>
  some v3
set_option maxHeartbeats 1000000 in
theorem x_A_become {l : Launch} {D : va_G} {ad : Nat → Nat} {aC : Nat → ClassId} (hf : l.flags = flags0) (hI : Inj ad) {h : HP} {a0 : Nat} {a1 : Nat} {r : HP} (k0 : knd a0 = 1) (k1 : knd a1 = 6) (e : f_A_become h a0 a1 = some r) : CT l D ad aC m_A_become [.ref a0, .ref a1] h (.inl none) r := by
  refine CT.ofGo (by decide +kernel) rfl (Nat.le_of_ble_eq_true rfl) ?_
  unfold f_A_become at e
  show Go l D ad aC (rmk m_A_become) _ m_A_become 0 [some (.ref a0), some (.ref a1)] [] h 0 0
  refine Go.run (pc' := 1) [.aload_n 0] (ls' := [some (.ref a0), some (.ref a1)]) (st' := [.ref a0]) (by decide +kernel) rfl rfl ?_
  refine Go.getR fo_A_12 k0 (by decide +kernel) ?_
  refine Go.run (pc' := 5) [.aload_n 1] (ls' := [some (.ref a0), some (.ref a1)]) (st' := [.ref a1, .ref (fld a0 0)]) (by decide +kernel) rfl rfl ?_
  obtain ⟨v1, e2, e⟩ := bd_inv e
  refine Go.callV (M2 := m_S_copy) (a := (fld a0 0)) (as := [.ref a1]) (rest := []) (v := none) (h1 := v1) (x_S_copy hf hI (kf_1_0 k0) k1 e2) wv_A_40 (kf_1_0 k0) kc_6 (by decide +kernel) rfl rfl ⟨⟨Nat.le_of_ble_eq_true rfl, Nat.le_of_ble_eq_true rfl⟩, ⟨Nat.le_of_ble_eq_true rfl, Nat.le_of_ble_eq_true rfl⟩⟩ (Nat.le_of_ble_eq_true rfl) ?_
  show Go l D ad aC (rmk m_A_become) _ m_A_become 8 [some (.ref a0), some (.ref a1)] [] v1 0 0
  refine Go.run (pc' := 9) [.aload_n 0] (ls' := [some (.ref a0), some (.ref a1)]) (st' := [.ref a0]) (by decide +kernel) rfl rfl ?_
  refine Go.getR fo_A_21 k0 (by decide +kernel) ?_
  refine Go.run (pc' := 13) [.aload_n 0] (ls' := [some (.ref a0), some (.ref a1)]) (st' := [.ref a0, .ref (fld a0 1)]) (by decide +kernel) rfl rfl ?_
  refine Go.getR fo_A_12 k0 (by decide +kernel) ?_
  obtain ⟨v3, e4, e⟩ := bd_inv e
  refine Go.callV (M2 := m_W_shareOut) (a := (fld a0 1)) (as := [.ref (fld a0 0)]) (rest := []) (v := none) (h1 := v3) (x_W_shareOut hf hI (kf_1_1 k0) (kf_1_0 k0) e4) wv_A_36 (kf_1_1 k0) kc_4 (by decide +kernel) rfl rfl ⟨⟨Nat.le_of_ble_eq_true rfl, Nat.le_of_ble_eq_true rfl⟩, ⟨Nat.le_of_ble_eq_true rfl, Nat.le_of_ble_eq_true rfl⟩⟩ (Nat.le_of_ble_eq_true rfl) ?_
  show Go l D ad aC (rmk m_A_become) _ m_A_become 19 [some (.ref a0), some (.ref a1)] [] v3 0 0
  obtain rfl := Option.some.inj e
  exact Go.vret rfl (by decide) (by decide) (by decide +kernel)
def f_A_openWall (h : HP) (a0 : Nat) (x1 : Int32) : Option (Int32 × HP) :=
  (f_A_isLength h x1).bind fun v1 =>
  if v1 = 0 then
    some ((-1 : Int32), h)
  else
    if (h (fld a0 0) 9) < 0 then
      some ((-1 : Int32), h)
    else
      if (h (fld a0 0) 9) < (4 : Int32) then
        if ib (h (fld a0 0) 9) 4 = true then
        (some (hset h (fld (fld a0 0) 0) (h (fld a0 0) 9).toNatClampNeg x1)).bind fun h7 =>
        (some (hset h7 (fld a0 0) 9 ((h7 (fld a0 0) 9) + (1 : Int32)))).bind fun h9 =>
        some ((h9 (fld a0 0) 9) - (1 : Int32), h9)
        else none
      else
        some ((-1 : Int32), h)
set_option maxHeartbeats 1000000 in
theorem x_A_openWall {l : Launch} {D : va_G} {ad : Nat → Nat} {aC : Nat → ClassId} (hf : l.flags = flags0) (hI : Inj ad) {h : HP} {a0 : Nat} {x1 : Int32} {r : Int32 × HP} (k0 : knd a0 = 1) (e : f_A_openWall h a0 x1 = some r) : CT l D ad aC m_A_openWall [.ref a0, .int x1] h (.inl (some (.int r.1))) r.2 := by
  refine CT.ofGo (by decide +kernel) rfl (Nat.le_of_ble_eq_true rfl) ?_
  unfold f_A_openWall at e
  show Go l D ad aC (rmk m_A_openWall) _ m_A_openWall 0 [some (.ref a0), some (.int x1)] [] h 0 0
  refine Go.run (pc' := 1) [.iload_n 1] (ls' := [some (.ref a0), some (.int x1)]) (st' := [.int x1]) (by decide +kernel) rfl rfl ?_
  obtain ⟨v1, e2, e⟩ := bd_inv e
  refine Go.callS (M2 := m_A_isLength) (as := [.int x1]) (rest := []) (v := some (.int v1)) (h1 := h) (x_A_isLength hf hI  e2) ws_A_43 (by decide +kernel) rfl rfl ⟨⟨Nat.le_of_ble_eq_true rfl, Nat.le_of_ble_eq_true rfl⟩, ⟨Nat.le_of_ble_eq_true rfl, Nat.le_of_ble_eq_true rfl⟩⟩ (Nat.le_of_ble_eq_true rfl) ?_
  show Go l D ad aC (rmk m_A_openWall) _ m_A_openWall 4 [some (.ref a0), some (.int x1)] [.int v1] h 0 0
  refine Go.if_eq (off := 24) (tgt := 28) (by decide +kernel) (by decide) (fun c3 => ?_) (fun c3 => ?_)
  · replace e := ite_t c3 e
    refine Go.run (pc' := 29) [.iconst (-1)] (ls' := [some (.ref a0), some (.int x1)]) (st' := [.int (-1 : Int32)]) (by decide +kernel) rfl rfl ?_
    obtain rfl := Option.some.inj e
    exact Go.iret rfl (by decide) (by decide) (by decide +kernel)
  · replace e := ite_f c3 e
    refine Go.run (pc' := 8) [.aload_n 0] (ls' := [some (.ref a0), some (.int x1)]) (st' := [.ref a0]) (by decide +kernel) rfl rfl ?_
    refine Go.getR fo_A_12 k0 (by decide +kernel) ?_
    refine Go.getI fo_A_47 (kf_1_0 k0) (by decide +kernel) ?_
    refine Go.if_lt (off := 14) (tgt := 28) (by decide +kernel) (by decide) (fun c4 => ?_) (fun c4 => ?_)
    · replace e := ite_t c4 e
      refine Go.run (pc' := 29) [.iconst (-1)] (ls' := [some (.ref a0), some (.int x1)]) (st' := [.int (-1 : Int32)]) (by decide +kernel) rfl rfl ?_
      obtain rfl := Option.some.inj e
      exact Go.iret rfl (by decide) (by decide) (by decide +kernel)
    · replace e := ite_f c4 e
      refine Go.run (pc' := 18) [.aload_n 0] (ls' := [some (.ref a0), some (.int x1)]) (st' := [.ref a0]) (by decide +kernel) rfl rfl ?_
      refine Go.getR fo_A_12 k0 (by decide +kernel) ?_
      refine Go.getI fo_A_47 (kf_1_0 k0) (by decide +kernel) ?_
      refine Go.run (pc' := 25) [.iconst 4] (ls' := [some (.ref a0), some (.int x1)]) (st' := [.int (4 : Int32), .int (h (fld a0 0) 9)]) (by decide +kernel) rfl rfl ?_
      refine Go.ic_lt (off := 5) (tgt := 30) (by decide +kernel) (by decide) (fun c5 => ?_) (fun c5 => ?_)
      · replace e := ite_t c5 e
        refine Go.run (pc' := 31) [.aload_n 0] (ls' := [some (.ref a0), some (.int x1)]) (st' := [.ref a0]) (by decide +kernel) rfl rfl ?_
        refine Go.getR fo_A_12 k0 (by decide +kernel) ?_
        refine Go.getR fo_A_51 (kf_1_0 k0) (by decide +kernel) ?_
        refine Go.run (pc' := 38) [.aload_n 0] (ls' := [some (.ref a0), some (.int x1)]) (st' := [.ref a0, .ref (fld (fld a0 0) 0)]) (by decide +kernel) rfl rfl ?_
        refine Go.getR fo_A_12 k0 (by decide +kernel) ?_
        refine Go.getI fo_A_47 (kf_1_0 k0) (by decide +kernel) ?_
        refine Go.run (pc' := 45) [.iload_n 1] (ls' := [some (.ref a0), some (.int x1)]) (st' := [.int x1, .int (h (fld a0 0) 9), .ref (fld (fld a0 0) 0)]) (by decide +kernel) rfl rfl ?_
        obtain ⟨g6, e⟩ := gd_inv e
        refine Go.iast hI (kf_6_j 0 (kf_1_0 k0) (by decide)) (al_6_j 0 (kf_1_0 k0) (by decide) rfl) g6 (by decide +kernel) ?_
        obtain ⟨h7, q8, e⟩ := bd_inv e
        refine Go.eqH (Option.some.inj q8) ?_
        refine Go.run (pc' := 47) [.aload_n 0] (ls' := [some (.ref a0), some (.int x1)]) (st' := [.ref a0]) (by decide +kernel) rfl rfl ?_
        refine Go.getR fo_A_12 k0 (by decide +kernel) ?_
        refine Go.run (pc' := 51) [.dup] (ls' := [some (.ref a0), some (.int x1)]) (st' := [.ref (fld a0 0), .ref (fld a0 0)]) (by decide +kernel) rfl rfl ?_
        refine Go.getI fo_A_47 (kf_1_0 k0) (by decide +kernel) ?_
        refine Go.run (pc' := 56) [.iconst 1, .iadd] (ls' := [some (.ref a0), some (.int x1)]) (st' := [.int ((h7 (fld a0 0) 9) + (1 : Int32)), .ref (fld a0 0)]) (by decide +kernel) rfl rfl ?_
        refine Go.put hI po_A_47 (kf_1_0 k0) (nar_i _) (fit_i _) (by decide +kernel) ?_
        obtain ⟨h9, q10, e⟩ := bd_inv e
        refine Go.eqH (Option.some.inj q10) ?_
        refine Go.run (pc' := 60) [.aload_n 0] (ls' := [some (.ref a0), some (.int x1)]) (st' := [.ref a0]) (by decide +kernel) rfl rfl ?_
        refine Go.getR fo_A_12 k0 (by decide +kernel) ?_
        refine Go.getI fo_A_47 (kf_1_0 k0) (by decide +kernel) ?_
        refine Go.run (pc' := 68) [.iconst 1, .isub] (ls' := [some (.ref a0), some (.int x1)]) (st' := [.int ((h9 (fld a0 0) 9) - (1 : Int32))]) (by decide +kernel) rfl rfl ?_
        obtain rfl := Option.some.inj e
        exact Go.iret rfl (by decide) (by decide) (by decide +kernel)
      · replace e := ite_f c5 e
        refine Go.run (pc' := 29) [.iconst (-1)] (ls' := [some (.ref a0), some (.int x1)]) (st' := [.int (-1 : Int32)]) (by decide +kernel) rfl rfl ?_
        obtain rfl := Option.some.inj e
        exact Go.iret rfl (by decide) (by decide) (by decide +kernel)
def f_A_putPlugs (h : HP) (a0 : Nat) (x1 : Int32) (x2 : Int32) (x3 : Int32) : Option (Int32 × HP) :=
  (f_S_hasMetre h (fld a0 0) x1 x2).bind fun v1 =>
  if v1 = 0 then
    some ((-1 : Int32), h)
  else
    (f_F_inRange h x3 (0 : Int32) (4 : Int32)).bind fun v4 =>
    if v4 = 0 then
      some ((-1 : Int32), h)
    else
      if ib ((x1 * (30 : Int32)) + x2) 120 = true then
      if ib ((x1 * (30 : Int32)) + x2) 120 = true then
      (some (hset h (fld (fld a0 0) 1) ((x1 * (30 : Int32)) + x2).toNatClampNeg x3)).bind fun h9 =>
      (f_W_shareOut h9 (fld a0 1) (fld a0 0)).bind fun v11 =>
      some (h (fld (fld a0 0) 1) ((x1 * (30 : Int32)) + x2).toNatClampNeg, v11)
      else none
      else none
set_option maxHeartbeats 1000000 in
theorem x_A_putPlugs {l : Launch} {D : va_G} {ad : Nat → Nat} {aC : Nat → ClassId} (hf : l.flags = flags0) (hI : Inj ad) {h : HP} {a0 : Nat} {x1 : Int32} {x2 : Int32} {x3 : Int32} {r : Int32 × HP} (k0 : knd a0 = 1) (e : f_A_putPlugs h a0 x1 x2 x3 = some r) : CT l D ad aC m_A_putPlugs [.ref a0, .int x1, .int x2, .int x3] h (.inl (some (.int r.1))) r.2 := by
  refine CT.ofGo (by decide +kernel) rfl (Nat.le_of_ble_eq_true rfl) ?_
  unfold f_A_putPlugs at e
  show Go l D ad aC (rmk m_A_putPlugs) _ m_A_putPlugs 0 [some (.ref a0), some (.int x1), some (.int x2), some (.int x3), none] [] h 0 0
  refine Go.run (pc' := 1) [.aload_n 0] (ls' := [some (.ref a0), some (.int x1), some (.int x2), some (.int x3), none]) (st' := [.ref a0]) (by decide +kernel) rfl rfl ?_
  refine Go.getR fo_A_12 k0 (by decide +kernel) ?_
  refine Go.run (pc' := 6) [.iload_n 1, .iload_n 2] (ls' := [some (.ref a0), some (.int x1), some (.int x2), some (.int x3), none]) (st' := [.int x2, .int x1, .ref (fld a0 0)]) (by decide +kernel) rfl rfl ?_
  obtain ⟨v1, e2, e⟩ := bd_inv e
  refine Go.callV (M2 := m_S_hasMetre) (a := (fld a0 0)) (as := [.int x1, .int x2]) (rest := []) (v := some (.int v1)) (h1 := h) (x_S_hasMetre hf hI (kf_1_0 k0) e2) wv_A_54 (kf_1_0 k0) kc_6 (by decide +kernel) rfl rfl ⟨⟨Nat.le_of_ble_eq_true rfl, Nat.le_of_ble_eq_true rfl⟩, ⟨Nat.le_of_ble_eq_true rfl, Nat.le_of_ble_eq_true rfl⟩⟩ (Nat.le_of_ble_eq_true rfl) ?_
  show Go l D ad aC (rmk m_A_putPlugs) _ m_A_putPlugs 9 [some (.ref a0), some (.int x1), some (.int x2), some (.int x3), none] [.int v1] h 0 0
  refine Go.if_eq (off := 12) (tgt := 21) (by decide +kernel) (by decide) (fun c3 => ?_) (fun c3 => ?_)
  · replace e := ite_t c3 e
    refine Go.run (pc' := 22) [.iconst (-1)] (ls' := [some (.ref a0), some (.int x1), some (.int x2), some (.int x3), none]) (st' := [.int (-1 : Int32)]) (by decide +kernel) rfl rfl ?_
    obtain rfl := Option.some.inj e
    exact Go.iret rfl (by decide) (by decide) (by decide +kernel)
  · replace e := ite_f c3 e
    refine Go.run (pc' := 15) [.iload_n 3, .iconst 0, .iconst 4] (ls' := [some (.ref a0), some (.int x1), some (.int x2), some (.int x3), none]) (st' := [.int (4 : Int32), .int (0 : Int32), .int x3]) (by decide +kernel) rfl rfl ?_
    obtain ⟨v4, e5, e⟩ := bd_inv e
    refine Go.callN (M2 := m_F_inRange) (as := [.int x3, .int (0 : Int32), .int (4 : Int32)]) (rest := []) (v := some (.int v4)) (h1 := h) (x_F_inRange hf hI  e5) wn_A_25 (by decide +kernel) rfl rfl ⟨⟨Nat.le_of_ble_eq_true rfl, Nat.le_of_ble_eq_true rfl⟩, ⟨Nat.le_of_ble_eq_true rfl, Nat.le_of_ble_eq_true rfl⟩⟩ (Nat.le_of_ble_eq_true rfl) ?_
    show Go l D ad aC (rmk m_A_putPlugs) _ m_A_putPlugs 18 [some (.ref a0), some (.int x1), some (.int x2), some (.int x3), none] [.int v4] h 0 0
    refine Go.if_ne (off := 5) (tgt := 23) (by decide +kernel) (by decide) (fun c6 => ?_) (fun c6 => ?_)
    · replace e := ite_f c6 e
      refine Go.run (pc' := 24) [.aload_n 0] (ls' := [some (.ref a0), some (.int x1), some (.int x2), some (.int x3), none]) (st' := [.ref a0]) (by decide +kernel) rfl rfl ?_
      refine Go.getR fo_A_12 k0 (by decide +kernel) ?_
      refine Go.getR fo_A_58 (kf_1_0 k0) (by decide +kernel) ?_
      refine Go.run (pc' := 36) [.iload_n 1, .bipush (30), .imul, .iload_n 2, .iadd] (ls' := [some (.ref a0), some (.int x1), some (.int x2), some (.int x3), none]) (st' := [.int ((x1 * (30 : Int32)) + x2), .ref (fld (fld a0 0) 1)]) (by decide +kernel) rfl rfl ?_
      obtain ⟨g7, e⟩ := gd_inv e
      refine Go.iald (kf_6_j 1 (kf_1_0 k0) (by decide)) (al_6_j 1 (kf_1_0 k0) (by decide) rfl) g7 (by decide +kernel) ?_
      refine Go.run (pc' := 40) [.istore 4, .aload_n 0] (ls' := [some (.ref a0), some (.int x1), some (.int x2), some (.int x3), some (.int (h (fld (fld a0 0) 1) ((x1 * (30 : Int32)) + x2).toNatClampNeg))]) (st' := [.ref a0]) (by decide +kernel) rfl rfl ?_
      refine Go.getR fo_A_12 k0 (by decide +kernel) ?_
      refine Go.getR fo_A_58 (kf_1_0 k0) (by decide +kernel) ?_
      refine Go.run (pc' := 53) [.iload_n 1, .bipush (30), .imul, .iload_n 2, .iadd, .iload_n 3] (ls' := [some (.ref a0), some (.int x1), some (.int x2), some (.int x3), some (.int (h (fld (fld a0 0) 1) ((x1 * (30 : Int32)) + x2).toNatClampNeg))]) (st' := [.int x3, .int ((x1 * (30 : Int32)) + x2), .ref (fld (fld a0 0) 1)]) (by decide +kernel) rfl rfl ?_
      obtain ⟨g8, e⟩ := gd_inv e
      refine Go.iast hI (kf_6_j 1 (kf_1_0 k0) (by decide)) (al_6_j 1 (kf_1_0 k0) (by decide) rfl) g8 (by decide +kernel) ?_
      obtain ⟨h9, q10, e⟩ := bd_inv e
      refine Go.eqH (Option.some.inj q10) ?_
      refine Go.run (pc' := 55) [.aload_n 0] (ls' := [some (.ref a0), some (.int x1), some (.int x2), some (.int x3), some (.int (h (fld (fld a0 0) 1) ((x1 * (30 : Int32)) + x2).toNatClampNeg))]) (st' := [.ref a0]) (by decide +kernel) rfl rfl ?_
      refine Go.getR fo_A_21 k0 (by decide +kernel) ?_
      refine Go.run (pc' := 59) [.aload_n 0] (ls' := [some (.ref a0), some (.int x1), some (.int x2), some (.int x3), some (.int (h (fld (fld a0 0) 1) ((x1 * (30 : Int32)) + x2).toNatClampNeg))]) (st' := [.ref a0, .ref (fld a0 1)]) (by decide +kernel) rfl rfl ?_
      refine Go.getR fo_A_12 k0 (by decide +kernel) ?_
      obtain ⟨v11, e12, e⟩ := bd_inv e
      refine Go.callV (M2 := m_W_shareOut) (a := (fld a0 1)) (as := [.ref (fld a0 0)]) (rest := []) (v := none) (h1 := v11) (x_W_shareOut hf hI (kf_1_1 k0) (kf_1_0 k0) e12) wv_A_36 (kf_1_1 k0) kc_4 (by decide +kernel) rfl rfl ⟨⟨Nat.le_of_ble_eq_true rfl, Nat.le_of_ble_eq_true rfl⟩, ⟨Nat.le_of_ble_eq_true rfl, Nat.le_of_ble_eq_true rfl⟩⟩ (Nat.le_of_ble_eq_true rfl) ?_
      show Go l D ad aC (rmk m_A_putPlugs) _ m_A_putPlugs 65 [some (.ref a0), some (.int x1), some (.int x2), some (.int x3), some (.int (h (fld (fld a0 0) 1) ((x1 * (30 : Int32)) + x2).toNatClampNeg))] [] v11 0 0
      refine Go.run (pc' := 67) [.iload 4] (ls' := [some (.ref a0), some (.int x1), some (.int x2), some (.int x3), some (.int (h (fld (fld a0 0) 1) ((x1 * (30 : Int32)) + x2).toNatClampNeg))]) (st' := [.int (h (fld (fld a0 0) 1) ((x1 * (30 : Int32)) + x2).toNatClampNeg)]) (by decide +kernel) rfl rfl ?_
      obtain rfl := Option.some.inj e
      exact Go.iret rfl (by decide) (by decide) (by decide +kernel)
    · replace e := ite_t c6 e
      refine Go.run (pc' := 22) [.iconst (-1)] (ls' := [some (.ref a0), some (.int x1), some (.int x2), some (.int x3), none]) (st' := [.int (-1 : Int32)]) (by decide +kernel) rfl rfl ?_
      obtain rfl := Option.some.inj e
      exact Go.iret rfl (by decide) (by decide) (by decide +kernel)
def f_A_admit (h : HP) (a0 : Nat) (x1 : Int32) (x2 : Int32) (x3 : Int32) : Option (Int32 × HP) :=
  (f_A_isDealer h x1 x2 x3).bind fun v1 =>
  if v1 = 0 then
    some ((-1 : Int32), h)
  else
    if (h (fld a0 0) 10) < 0 then
      some ((-1 : Int32), h)
    else
      if (h (fld a0 0) 10) < (10 : Int32) then
        if ib (h (fld a0 0) 10) 10 = true then
        (some (hset h (fld (fld a0 0) 2) (h (fld a0 0) 10).toNatClampNeg x1)).bind fun h7 =>
        if ib (h (fld a0 0) 10) 10 = true then
        (some (hset h7 (fld (fld a0 0) 3) (h (fld a0 0) 10).toNatClampNeg x2)).bind fun h10 =>
        if ib (h (fld a0 0) 10) 10 = true then
        (some (hset h10 (fld (fld a0 0) 4) (h (fld a0 0) 10).toNatClampNeg x3)).bind fun h13 =>
        if ib (h (fld a0 0) 10) 10 = true then
        (some (hset h13 (fld (fld a0 0) 5) (h (fld a0 0) 10).toNatClampNeg (-1 : Int32))).bind fun h16 =>
        if ib (h (fld a0 0) 10) 10 = true then
        (some (hset h16 (fld (fld a0 0) 6) (h (fld a0 0) 10).toNatClampNeg (-1 : Int32))).bind fun h19 =>
        if ib (h (fld a0 0) 10) 10 = true then
        (some (hset h19 (fld (fld a0 0) 7) (h (fld a0 0) 10).toNatClampNeg (0 : Int32))).bind fun h22 =>
        (some (hset h22 (fld a0 0) 10 ((h (fld a0 0) 10) + (1 : Int32)))).bind fun h24 =>
        some (h (fld a0 0) 10, h24)
        else none
        else none
        else none
        else none
        else none
        else none
      else
        some ((-1 : Int32), h)
set_option maxHeartbeats 1000000 in
theorem x_A_admit {l : Launch} {D : va_G} {ad : Nat → Nat} {aC : Nat → ClassId} (hf : l.flags = flags0) (hI : Inj ad) {h : HP} {a0 : Nat} {x1 : Int32} {x2 : Int32} {x3 : Int32} {r : Int32 × HP} (k0 : knd a0 = 1) (e : f_A_admit h a0 x1 x2 x3 = some r) : CT l D ad aC m_A_admit [.ref a0, .int x1, .int x2, .int x3] h (.inl (some (.int r.1))) r.2 := by
  refine CT.ofGo (by decide +kernel) rfl (Nat.le_of_ble_eq_true rfl) ?_
  unfold f_A_admit at e
  show Go l D ad aC (rmk m_A_admit) _ m_A_admit 0 [some (.ref a0), some (.int x1), some (.int x2), some (.int x3), none] [] h 0 0
  refine Go.run (pc' := 1) [.aload_n 0] (ls' := [some (.ref a0), some (.int x1), some (.int x2), some (.int x3), none]) (st' := [.ref a0]) (by decide +kernel) rfl rfl ?_
  refine Go.getR fo_A_12 k0 (by decide +kernel) ?_
  refine Go.getI fo_A_61 (kf_1_0 k0) (by decide +kernel) ?_
  refine Go.run (pc' := 12) [.istore 4, .iload_n 1, .iload_n 2, .iload_n 3] (ls' := [some (.ref a0), some (.int x1), some (.int x2), some (.int x3), some (.int (h (fld a0 0) 10))]) (st' := [.int x3, .int x2, .int x1]) (by decide +kernel) rfl rfl ?_
  obtain ⟨v1, e2, e⟩ := bd_inv e
  refine Go.callS (M2 := m_A_isDealer) (as := [.int x1, .int x2, .int x3]) (rest := []) (v := some (.int v1)) (h1 := h) (x_A_isDealer hf hI  e2) ws_A_64 (by decide +kernel) rfl rfl ⟨⟨Nat.le_of_ble_eq_true rfl, Nat.le_of_ble_eq_true rfl⟩, ⟨Nat.le_of_ble_eq_true rfl, Nat.le_of_ble_eq_true rfl⟩⟩ (Nat.le_of_ble_eq_true rfl) ?_
  show Go l D ad aC (rmk m_A_admit) _ m_A_admit 15 [some (.ref a0), some (.int x1), some (.int x2), some (.int x3), some (.int (h (fld a0 0) 10))] [.int v1] h 0 0
  refine Go.if_eq (off := 15) (tgt := 30) (by decide +kernel) (by decide) (fun c3 => ?_) (fun c3 => ?_)
  · replace e := ite_t c3 e
    refine Go.run (pc' := 31) [.iconst (-1)] (ls' := [some (.ref a0), some (.int x1), some (.int x2), some (.int x3), some (.int (h (fld a0 0) 10))]) (st' := [.int (-1 : Int32)]) (by decide +kernel) rfl rfl ?_
    obtain rfl := Option.some.inj e
    exact Go.iret rfl (by decide) (by decide) (by decide +kernel)
  · replace e := ite_f c3 e
    refine Go.run (pc' := 20) [.iload 4] (ls' := [some (.ref a0), some (.int x1), some (.int x2), some (.int x3), some (.int (h (fld a0 0) 10))]) (st' := [.int (h (fld a0 0) 10)]) (by decide +kernel) rfl rfl ?_
    refine Go.if_lt (off := 10) (tgt := 30) (by decide +kernel) (by decide) (fun c4 => ?_) (fun c4 => ?_)
    · replace e := ite_t c4 e
      refine Go.run (pc' := 31) [.iconst (-1)] (ls' := [some (.ref a0), some (.int x1), some (.int x2), some (.int x3), some (.int (h (fld a0 0) 10))]) (st' := [.int (-1 : Int32)]) (by decide +kernel) rfl rfl ?_
      obtain rfl := Option.some.inj e
      exact Go.iret rfl (by decide) (by decide) (by decide +kernel)
    · replace e := ite_f c4 e
      refine Go.run (pc' := 27) [.iload 4, .bipush (10)] (ls' := [some (.ref a0), some (.int x1), some (.int x2), some (.int x3), some (.int (h (fld a0 0) 10))]) (st' := [.int (10 : Int32), .int (h (fld a0 0) 10)]) (by decide +kernel) rfl rfl ?_
      refine Go.ic_lt (off := 5) (tgt := 32) (by decide +kernel) (by decide) (fun c5 => ?_) (fun c5 => ?_)
      · replace e := ite_t c5 e
        refine Go.run (pc' := 33) [.aload_n 0] (ls' := [some (.ref a0), some (.int x1), some (.int x2), some (.int x3), some (.int (h (fld a0 0) 10))]) (st' := [.ref a0]) (by decide +kernel) rfl rfl ?_
        refine Go.getR fo_A_12 k0 (by decide +kernel) ?_
        refine Go.getR fo_A_67 (kf_1_0 k0) (by decide +kernel) ?_
        refine Go.run (pc' := 42) [.iload 4, .iload_n 1] (ls' := [some (.ref a0), some (.int x1), some (.int x2), some (.int x3), some (.int (h (fld a0 0) 10))]) (st' := [.int x1, .int (h (fld a0 0) 10), .ref (fld (fld a0 0) 2)]) (by decide +kernel) rfl rfl ?_
        obtain ⟨g6, e⟩ := gd_inv e
        refine Go.iast hI (kf_6_j 2 (kf_1_0 k0) (by decide)) (al_6_j 2 (kf_1_0 k0) (by decide) rfl) g6 (by decide +kernel) ?_
        obtain ⟨h7, q8, e⟩ := bd_inv e
        refine Go.eqH (Option.some.inj q8) ?_
        refine Go.run (pc' := 44) [.aload_n 0] (ls' := [some (.ref a0), some (.int x1), some (.int x2), some (.int x3), some (.int (h (fld a0 0) 10))]) (st' := [.ref a0]) (by decide +kernel) rfl rfl ?_
        refine Go.getR fo_A_12 k0 (by decide +kernel) ?_
        refine Go.getR fo_A_70 (kf_1_0 k0) (by decide +kernel) ?_
        refine Go.run (pc' := 53) [.iload 4, .iload_n 2] (ls' := [some (.ref a0), some (.int x1), some (.int x2), some (.int x3), some (.int (h (fld a0 0) 10))]) (st' := [.int x2, .int (h (fld a0 0) 10), .ref (fld (fld a0 0) 3)]) (by decide +kernel) rfl rfl ?_
        obtain ⟨g9, e⟩ := gd_inv e
        refine Go.iast hI (kf_6_j 3 (kf_1_0 k0) (by decide)) (al_6_j 3 (kf_1_0 k0) (by decide) rfl) g9 (by decide +kernel) ?_
        obtain ⟨h10, q11, e⟩ := bd_inv e
        refine Go.eqH (Option.some.inj q11) ?_
        refine Go.run (pc' := 55) [.aload_n 0] (ls' := [some (.ref a0), some (.int x1), some (.int x2), some (.int x3), some (.int (h (fld a0 0) 10))]) (st' := [.ref a0]) (by decide +kernel) rfl rfl ?_
        refine Go.getR fo_A_12 k0 (by decide +kernel) ?_
        refine Go.getR fo_A_73 (kf_1_0 k0) (by decide +kernel) ?_
        refine Go.run (pc' := 64) [.iload 4, .iload_n 3] (ls' := [some (.ref a0), some (.int x1), some (.int x2), some (.int x3), some (.int (h (fld a0 0) 10))]) (st' := [.int x3, .int (h (fld a0 0) 10), .ref (fld (fld a0 0) 4)]) (by decide +kernel) rfl rfl ?_
        obtain ⟨g12, e⟩ := gd_inv e
        refine Go.iast hI (kf_6_j 4 (kf_1_0 k0) (by decide)) (al_6_j 4 (kf_1_0 k0) (by decide) rfl) g12 (by decide +kernel) ?_
        obtain ⟨h13, q14, e⟩ := bd_inv e
        refine Go.eqH (Option.some.inj q14) ?_
        refine Go.run (pc' := 66) [.aload_n 0] (ls' := [some (.ref a0), some (.int x1), some (.int x2), some (.int x3), some (.int (h (fld a0 0) 10))]) (st' := [.ref a0]) (by decide +kernel) rfl rfl ?_
        refine Go.getR fo_A_12 k0 (by decide +kernel) ?_
        refine Go.getR fo_A_76 (kf_1_0 k0) (by decide +kernel) ?_
        refine Go.run (pc' := 75) [.iload 4, .iconst (-1)] (ls' := [some (.ref a0), some (.int x1), some (.int x2), some (.int x3), some (.int (h (fld a0 0) 10))]) (st' := [.int (-1 : Int32), .int (h (fld a0 0) 10), .ref (fld (fld a0 0) 5)]) (by decide +kernel) rfl rfl ?_
        obtain ⟨g15, e⟩ := gd_inv e
        refine Go.iast hI (kf_6_j 5 (kf_1_0 k0) (by decide)) (al_6_j 5 (kf_1_0 k0) (by decide) rfl) g15 (by decide +kernel) ?_
        obtain ⟨h16, q17, e⟩ := bd_inv e
        refine Go.eqH (Option.some.inj q17) ?_
        refine Go.run (pc' := 77) [.aload_n 0] (ls' := [some (.ref a0), some (.int x1), some (.int x2), some (.int x3), some (.int (h (fld a0 0) 10))]) (st' := [.ref a0]) (by decide +kernel) rfl rfl ?_
        refine Go.getR fo_A_12 k0 (by decide +kernel) ?_
        refine Go.getR fo_A_79 (kf_1_0 k0) (by decide +kernel) ?_
        refine Go.run (pc' := 86) [.iload 4, .iconst (-1)] (ls' := [some (.ref a0), some (.int x1), some (.int x2), some (.int x3), some (.int (h (fld a0 0) 10))]) (st' := [.int (-1 : Int32), .int (h (fld a0 0) 10), .ref (fld (fld a0 0) 6)]) (by decide +kernel) rfl rfl ?_
        obtain ⟨g18, e⟩ := gd_inv e
        refine Go.iast hI (kf_6_j 6 (kf_1_0 k0) (by decide)) (al_6_j 6 (kf_1_0 k0) (by decide) rfl) g18 (by decide +kernel) ?_
        obtain ⟨h19, q20, e⟩ := bd_inv e
        refine Go.eqH (Option.some.inj q20) ?_
        refine Go.run (pc' := 88) [.aload_n 0] (ls' := [some (.ref a0), some (.int x1), some (.int x2), some (.int x3), some (.int (h (fld a0 0) 10))]) (st' := [.ref a0]) (by decide +kernel) rfl rfl ?_
        refine Go.getR fo_A_12 k0 (by decide +kernel) ?_
        refine Go.getR fo_A_82 (kf_1_0 k0) (by decide +kernel) ?_
        refine Go.run (pc' := 97) [.iload 4, .iconst 0] (ls' := [some (.ref a0), some (.int x1), some (.int x2), some (.int x3), some (.int (h (fld a0 0) 10))]) (st' := [.int (0 : Int32), .int (h (fld a0 0) 10), .ref (fld (fld a0 0) 7)]) (by decide +kernel) rfl rfl ?_
        obtain ⟨g21, e⟩ := gd_inv e
        refine Go.iast hI (kf_6_j 7 (kf_1_0 k0) (by decide)) (al_6_j 7 (kf_1_0 k0) (by decide) rfl) g21 (by decide +kernel) ?_
        obtain ⟨h22, q23, e⟩ := bd_inv e
        refine Go.eqH (Option.some.inj q23) ?_
        refine Go.run (pc' := 99) [.aload_n 0] (ls' := [some (.ref a0), some (.int x1), some (.int x2), some (.int x3), some (.int (h (fld a0 0) 10))]) (st' := [.ref a0]) (by decide +kernel) rfl rfl ?_
        refine Go.getR fo_A_12 k0 (by decide +kernel) ?_
        refine Go.run (pc' := 106) [.iload 4, .iconst 1, .iadd] (ls' := [some (.ref a0), some (.int x1), some (.int x2), some (.int x3), some (.int (h (fld a0 0) 10))]) (st' := [.int ((h (fld a0 0) 10) + (1 : Int32)), .ref (fld a0 0)]) (by decide +kernel) rfl rfl ?_
        refine Go.put hI po_A_61 (kf_1_0 k0) (nar_i _) (fit_i _) (by decide +kernel) ?_
        obtain ⟨h24, q25, e⟩ := bd_inv e
        refine Go.eqH (Option.some.inj q25) ?_
        refine Go.run (pc' := 111) [.iload 4] (ls' := [some (.ref a0), some (.int x1), some (.int x2), some (.int x3), some (.int (h (fld a0 0) 10))]) (st' := [.int (h (fld a0 0) 10)]) (by decide +kernel) rfl rfl ?_
        obtain rfl := Option.some.inj e
        exact Go.iret rfl (by decide) (by decide) (by decide +kernel)
      · replace e := ite_f c5 e
        refine Go.run (pc' := 31) [.iconst (-1)] (ls' := [some (.ref a0), some (.int x1), some (.int x2), some (.int x3), some (.int (h (fld a0 0) 10))]) (st' := [.int (-1 : Int32)]) (by decide +kernel) rfl rfl ?_
        obtain rfl := Option.some.inj e
        exact Go.iret rfl (by decide) (by decide) (by decide +kernel)
def f_A_overlap (h : HP) (x0 : Int32) (x1 : Int32) (x2 : Int32) (x3 : Int32) : Option (Int32) :=
  if (x2 + x3) ≤ x0 then
    some (0 : Int32)
  else
    if (x0 + x1) ≤ x2 then
      some (0 : Int32)
    else
      some (1 : Int32)
set_option maxHeartbeats 1000000 in
theorem x_A_overlap {l : Launch} {D : va_G} {ad : Nat → Nat} {aC : Nat → ClassId} (hf : l.flags = flags0) (hI : Inj ad) {h : HP} {x0 : Int32} {x1 : Int32} {x2 : Int32} {x3 : Int32} {r : Int32}  (e : f_A_overlap h x0 x1 x2 x3 = some r) : CT l D ad aC m_A_overlap [.int x0, .int x1, .int x2, .int x3] h (.inl (some (.int r))) h := by
  refine CT.ofGo (by decide +kernel) rfl (Nat.le_of_ble_eq_true rfl) ?_
  unfold f_A_overlap at e
  show Go l D ad aC (rmk m_A_overlap) _ m_A_overlap 0 [some (.int x0), some (.int x1), some (.int x2), some (.int x3)] [] h 0 0
  refine Go.run (pc' := 4) [.iload_n 0, .iload_n 2, .iload_n 3, .iadd] (ls' := [some (.int x0), some (.int x1), some (.int x2), some (.int x3)]) (st' := [.int (x2 + x3), .int x0]) (by decide +kernel) rfl rfl ?_
  refine Go.ic_ge (off := 14) (tgt := 18) (by decide +kernel) (by decide) (fun c1 => ?_) (fun c1 => ?_)
  · replace e := ite_t c1 e
    refine Go.run (pc' := 19) [.iconst 0] (ls' := [some (.int x0), some (.int x1), some (.int x2), some (.int x3)]) (st' := [.int (0 : Int32)]) (by decide +kernel) rfl rfl ?_
    obtain rfl := Option.some.inj e
    exact Go.zret rfl nar_z0 (by decide) (by decide) (by decide +kernel)
  · replace e := ite_f c1 e
    refine Go.run (pc' := 11) [.iload_n 2, .iload_n 0, .iload_n 1, .iadd] (ls' := [some (.int x0), some (.int x1), some (.int x2), some (.int x3)]) (st' := [.int (x0 + x1), .int x2]) (by decide +kernel) rfl rfl ?_
    refine Go.ic_ge (off := 7) (tgt := 18) (by decide +kernel) (by decide) (fun c2 => ?_) (fun c2 => ?_)
    · replace e := ite_t c2 e
      refine Go.run (pc' := 19) [.iconst 0] (ls' := [some (.int x0), some (.int x1), some (.int x2), some (.int x3)]) (st' := [.int (0 : Int32)]) (by decide +kernel) rfl rfl ?_
      obtain rfl := Option.some.inj e
      exact Go.zret rfl nar_z0 (by decide) (by decide) (by decide +kernel)
    · replace e := ite_f c2 e
      refine Go.run (pc' := 15) [.iconst 1] (ls' := [some (.int x0), some (.int x1), some (.int x2), some (.int x3)]) (st' := [.int (1 : Int32)]) (by decide +kernel) rfl rfl ?_
      refine Go.goto (off := 4) (tgt := 19) (by decide +kernel) (by decide) ?_
      obtain rfl := Option.some.inj e
      exact Go.zret rfl nar_z1 (by decide) (by decide) (by decide +kernel)
def f_A_isFreeButFor_79 (h : HP) (k3_ : Nat → Int32 → Int32 → Int32 → Int32 → Int32 → Int32 → Option (Int32)) (a0 : Nat) (x1 : Int32) (x2 : Int32) (x3 : Int32) (x4 : Int32) (x5 : Int32) (x6 : Int32) : Option (Int32) :=
  k3_ a0 x1 x2 x3 x4 x5 (x6 + (1 : Int32))
set_option maxHeartbeats 1000000 in
theorem x_A_isFreeButFor_79 {l : Launch} {D : va_G} {ad : Nat → Nat} {aC : Nat → ClassId} (hf : l.flags = flags0) (hI : Inj ad) {h : HP} {k3_ : Nat → Int32 → Int32 → Int32 → Int32 → Int32 → Int32 → Option (Int32)} (K3_ : ∀ {a0 : Nat} {x1 : Int32} {x2 : Int32} {x3 : Int32} {x4 : Int32} {x5 : Int32} {x6 : Int32} {r : Int32}, knd a0 = 1 → k3_ a0 x1 x2 x3 x4 x5 x6 = some r → Go l D ad aC (rmk m_A_isFreeButFor) (QM D ad aC m_A_isFreeButFor (.inl (some (.int r))) h) m_A_isFreeButFor 3 [some (.ref a0), some (.int x1), some (.int x2), some (.int x3), some (.int x4), some (.int x5), some (.int x6)] [] h 0 0) {a0 : Nat} {x1 : Int32} {x2 : Int32} {x3 : Int32} {x4 : Int32} {x5 : Int32} {x6 : Int32} {r : Int32} (k0 : knd a0 = 1) (e : f_A_isFreeButFor_79 h k3_ a0 x1 x2 x3 x4 x5 x6 = some r) : Go l D ad aC (rmk m_A_isFreeButFor) (QM D ad aC m_A_isFreeButFor (.inl (some (.int r))) h) m_A_isFreeButFor 79 [some (.ref a0), some (.int x1), some (.int x2), some (.int x3), some (.int x4), some (.int x5), some (.int x6)] [] h 0 0 := by
  unfold f_A_isFreeButFor_79 at e
  refine Go.run (pc' := 82) [.iinc 6 (1)] (ls' := [some (.ref a0), some (.int x1), some (.int x2), some (.int x3), some (.int x4), some (.int x5), some (.int (x6 + (1 : Int32)))]) (st' := []) (by decide +kernel) rfl rfl ?_
  refine Go.goto (off := -79) (tgt := 3) (by decide +kernel) (by decide) ?_
  exact K3_ k0 e
def f_A_isFreeButFor_3 (h : HP)  : Nat → Nat → Int32 → Int32 → Int32 → Int32 → Int32 → Int32 → Option (Int32)
  | 0, _, _, _, _, _, _, _ => none
  | n + 1, a0, x1, x2, x3, x4, x5, x6 =>
    if (h (fld a0 0) 10) ≤ x6 then
      some (1 : Int32)
    else
      if (10 : Int32) ≤ x6 then
        some (1 : Int32)
      else
        if x6 = x4 then
          f_A_isFreeButFor_79 h (f_A_isFreeButFor_3 h n) a0 x1 x2 x3 x4 x5 x6
        else
          if x6 = x5 then
            f_A_isFreeButFor_79 h (f_A_isFreeButFor_3 h n) a0 x1 x2 x3 x4 x5 x6
          else
            (f_S_standsAt h (fld a0 0) x6 x1).bind fun v5 =>
            if v5 = 0 then
              f_A_isFreeButFor_79 h (f_A_isFreeButFor_3 h n) a0 x1 x2 x3 x4 x5 x6
            else
              if ib x6 10 = true then
              if ib x6 10 = true then
              (f_A_overlap h x2 x3 (h (fld (fld a0 0) 6) x6.toNatClampNeg) (h (fld (fld a0 0) 3) x6.toNatClampNeg)).bind fun v10 =>
              if v10 = 0 then
                f_A_isFreeButFor_79 h (f_A_isFreeButFor_3 h n) a0 x1 x2 x3 x4 x5 x6
              else
                some (0 : Int32)
              else none
              else none
set_option maxHeartbeats 1000000 in
theorem x_A_isFreeButFor_3 {l : Launch} {D : va_G} {ad : Nat → Nat} {aC : Nat → ClassId} (hf : l.flags = flags0) (hI : Inj ad) {h : HP} : ∀ (n : Nat) {a0 : Nat} {x1 : Int32} {x2 : Int32} {x3 : Int32} {x4 : Int32} {x5 : Int32} {x6 : Int32} {r : Int32}, knd a0 = 1 → f_A_isFreeButFor_3 h n a0 x1 x2 x3 x4 x5 x6 = some r → Go l D ad aC (rmk m_A_isFreeButFor) (QM D ad aC m_A_isFreeButFor (.inl (some (.int r))) h) m_A_isFreeButFor 3 [some (.ref a0), some (.int x1), some (.int x2), some (.int x3), some (.int x4), some (.int x5), some (.int x6)] [] h 0 0 := by
  intro n
  induction n with
  | zero => intro a0 x1 x2 x3 x4 x5 x6 r k0 e; exact no_none e
  | succ n ih =>
    intro a0 x1 x2 x3 x4 x5 x6 r k0 e
    rw [f_A_isFreeButFor_3] at e
    refine Go.run (pc' := 6) [.iload 6, .aload_n 0] (ls' := [some (.ref a0), some (.int x1), some (.int x2), some (.int x3), some (.int x4), some (.int x5), some (.int x6)]) (st' := [.ref a0, .int x6]) (by decide +kernel) rfl rfl ?_
    refine Go.getR fo_A_12 k0 (by decide +kernel) ?_
    refine Go.getI fo_A_61 (kf_1_0 k0) (by decide +kernel) ?_
    refine Go.ic_ge (off := 73) (tgt := 85) (by decide +kernel) (by decide) (fun c1 => ?_) (fun c1 => ?_)
    · replace e := ite_t c1 e
      refine Go.run (pc' := 86) [.iconst 1] (ls' := [some (.ref a0), some (.int x1), some (.int x2), some (.int x3), some (.int x4), some (.int x5), some (.int x6)]) (st' := [.int (1 : Int32)]) (by decide +kernel) rfl rfl ?_
      obtain rfl := Option.some.inj e
      exact Go.zret rfl nar_z1 (by decide) (by decide) (by decide +kernel)
    · replace e := ite_f c1 e
      refine Go.run (pc' := 19) [.iload 6, .bipush (10)] (ls' := [some (.ref a0), some (.int x1), some (.int x2), some (.int x3), some (.int x4), some (.int x5), some (.int x6)]) (st' := [.int (10 : Int32), .int x6]) (by decide +kernel) rfl rfl ?_
      refine Go.ic_ge (off := 66) (tgt := 85) (by decide +kernel) (by decide) (fun c2 => ?_) (fun c2 => ?_)
      · replace e := ite_t c2 e
        refine Go.run (pc' := 86) [.iconst 1] (ls' := [some (.ref a0), some (.int x1), some (.int x2), some (.int x3), some (.int x4), some (.int x5), some (.int x6)]) (st' := [.int (1 : Int32)]) (by decide +kernel) rfl rfl ?_
        obtain rfl := Option.some.inj e
        exact Go.zret rfl nar_z1 (by decide) (by decide) (by decide +kernel)
      · replace e := ite_f c2 e
        refine Go.run (pc' := 26) [.iload 6, .iload 4] (ls' := [some (.ref a0), some (.int x1), some (.int x2), some (.int x3), some (.int x4), some (.int x5), some (.int x6)]) (st' := [.int x4, .int x6]) (by decide +kernel) rfl rfl ?_
        refine Go.ic_eq (off := 53) (tgt := 79) (by decide +kernel) (by decide) (fun c3 => ?_) (fun c3 => ?_)
        · replace e := ite_t c3 e
          exact x_A_isFreeButFor_79 hf hI (fun kk0 e => ih kk0 e) k0 e
        · replace e := ite_f c3 e
          refine Go.run (pc' := 33) [.iload 6, .iload 5] (ls' := [some (.ref a0), some (.int x1), some (.int x2), some (.int x3), some (.int x4), some (.int x5), some (.int x6)]) (st' := [.int x5, .int x6]) (by decide +kernel) rfl rfl ?_
          refine Go.ic_eq (off := 46) (tgt := 79) (by decide +kernel) (by decide) (fun c4 => ?_) (fun c4 => ?_)
          · replace e := ite_t c4 e
            exact x_A_isFreeButFor_79 hf hI (fun kk0 e => ih kk0 e) k0 e
          · replace e := ite_f c4 e
            refine Go.run (pc' := 37) [.aload_n 0] (ls' := [some (.ref a0), some (.int x1), some (.int x2), some (.int x3), some (.int x4), some (.int x5), some (.int x6)]) (st' := [.ref a0]) (by decide +kernel) rfl rfl ?_
            refine Go.getR fo_A_12 k0 (by decide +kernel) ?_
            refine Go.run (pc' := 43) [.iload 6, .iload_n 1] (ls' := [some (.ref a0), some (.int x1), some (.int x2), some (.int x3), some (.int x4), some (.int x5), some (.int x6)]) (st' := [.int x1, .int x6, .ref (fld a0 0)]) (by decide +kernel) rfl rfl ?_
            obtain ⟨v5, e6, e⟩ := bd_inv e
            refine Go.callV (M2 := m_S_standsAt) (a := (fld a0 0)) (as := [.int x6, .int x1]) (rest := []) (v := some (.int v5)) (h1 := h) (x_S_standsAt hf hI (kf_1_0 k0) e6) wv_A_138 (kf_1_0 k0) kc_6 (by decide +kernel) rfl rfl ⟨⟨Nat.le_of_ble_eq_true rfl, Nat.le_of_ble_eq_true rfl⟩, ⟨Nat.le_of_ble_eq_true rfl, Nat.le_of_ble_eq_true rfl⟩⟩ (Nat.le_of_ble_eq_true rfl) ?_
            show Go l D ad aC (rmk m_A_isFreeButFor) _ m_A_isFreeButFor 46 [some (.ref a0), some (.int x1), some (.int x2), some (.int x3), some (.int x4), some (.int x5), some (.int x6)] [.int v5] h 0 0
            refine Go.if_eq (off := 33) (tgt := 79) (by decide +kernel) (by decide) (fun c7 => ?_) (fun c7 => ?_)
            · replace e := ite_t c7 e
              exact x_A_isFreeButFor_79 hf hI (fun kk0 e => ih kk0 e) k0 e
            · replace e := ite_f c7 e
              refine Go.run (pc' := 52) [.iload_n 2, .iload_n 3, .aload_n 0] (ls' := [some (.ref a0), some (.int x1), some (.int x2), some (.int x3), some (.int x4), some (.int x5), some (.int x6)]) (st' := [.ref a0, .int x3, .int x2]) (by decide +kernel) rfl rfl ?_
              refine Go.getR fo_A_12 k0 (by decide +kernel) ?_
              refine Go.getR fo_A_79 (kf_1_0 k0) (by decide +kernel) ?_
              refine Go.run (pc' := 60) [.iload 6] (ls' := [some (.ref a0), some (.int x1), some (.int x2), some (.int x3), some (.int x4), some (.int x5), some (.int x6)]) (st' := [.int x6, .ref (fld (fld a0 0) 6), .int x3, .int x2]) (by decide +kernel) rfl rfl ?_
              obtain ⟨g8, e⟩ := gd_inv e
              refine Go.iald (kf_6_j 6 (kf_1_0 k0) (by decide)) (al_6_j 6 (kf_1_0 k0) (by decide) rfl) g8 (by decide +kernel) ?_
              refine Go.run (pc' := 62) [.aload_n 0] (ls' := [some (.ref a0), some (.int x1), some (.int x2), some (.int x3), some (.int x4), some (.int x5), some (.int x6)]) (st' := [.ref a0, .int (h (fld (fld a0 0) 6) x6.toNatClampNeg), .int x3, .int x2]) (by decide +kernel) rfl rfl ?_
              refine Go.getR fo_A_12 k0 (by decide +kernel) ?_
              refine Go.getR fo_A_70 (kf_1_0 k0) (by decide +kernel) ?_
              refine Go.run (pc' := 70) [.iload 6] (ls' := [some (.ref a0), some (.int x1), some (.int x2), some (.int x3), some (.int x4), some (.int x5), some (.int x6)]) (st' := [.int x6, .ref (fld (fld a0 0) 3), .int (h (fld (fld a0 0) 6) x6.toNatClampNeg), .int x3, .int x2]) (by decide +kernel) rfl rfl ?_
              obtain ⟨g9, e⟩ := gd_inv e
              refine Go.iald (kf_6_j 3 (kf_1_0 k0) (by decide)) (al_6_j 3 (kf_1_0 k0) (by decide) rfl) g9 (by decide +kernel) ?_
              obtain ⟨v10, e11, e⟩ := bd_inv e
              refine Go.callS (M2 := m_A_overlap) (as := [.int x2, .int x3, .int (h (fld (fld a0 0) 6) x6.toNatClampNeg), .int (h (fld (fld a0 0) 3) x6.toNatClampNeg)]) (rest := []) (v := some (.int v10)) (h1 := h) (x_A_overlap hf hI  e11) ws_A_134 (by decide +kernel) rfl rfl ⟨⟨Nat.le_of_ble_eq_true rfl, Nat.le_of_ble_eq_true rfl⟩, ⟨Nat.le_of_ble_eq_true rfl, Nat.le_of_ble_eq_true rfl⟩⟩ (Nat.le_of_ble_eq_true rfl) ?_
              show Go l D ad aC (rmk m_A_isFreeButFor) _ m_A_isFreeButFor 74 [some (.ref a0), some (.int x1), some (.int x2), some (.int x3), some (.int x4), some (.int x5), some (.int x6)] [.int v10] h 0 0
              refine Go.if_eq (off := 5) (tgt := 79) (by decide +kernel) (by decide) (fun c12 => ?_) (fun c12 => ?_)
              · replace e := ite_t c12 e
                exact x_A_isFreeButFor_79 hf hI (fun kk0 e => ih kk0 e) k0 e
              · replace e := ite_f c12 e
                refine Go.run (pc' := 78) [.iconst 0] (ls' := [some (.ref a0), some (.int x1), some (.int x2), some (.int x3), some (.int x4), some (.int x5), some (.int x6)]) (st' := [.int (0 : Int32)]) (by decide +kernel) rfl rfl ?_
                obtain rfl := Option.some.inj e
                exact Go.zret rfl nar_z0 (by decide) (by decide) (by decide +kernel)
def f_A_isFreeButFor (h : HP) (a0 : Nat) (x1 : Int32) (x2 : Int32) (x3 : Int32) (x4 : Int32) (x5 : Int32) : Option (Int32) :=
  f_A_isFreeButFor_3 h 4096 a0 x1 x2 x3 x4 x5 (0 : Int32)
set_option maxHeartbeats 1000000 in
theorem x_A_isFreeButFor {l : Launch} {D : va_G} {ad : Nat → Nat} {aC : Nat → ClassId} (hf : l.flags = flags0) (hI : Inj ad) {h : HP} {a0 : Nat} {x1 : Int32} {x2 : Int32} {x3 : Int32} {x4 : Int32} {x5 : Int32} {r : Int32} (k0 : knd a0 = 1) (e : f_A_isFreeButFor h a0 x1 x2 x3 x4 x5 = some r) : CT l D ad aC m_A_isFreeButFor [.ref a0, .int x1, .int x2, .int x3, .int x4, .int x5] h (.inl (some (.int r))) h := by
  refine CT.ofGo (by decide +kernel) rfl (Nat.le_of_ble_eq_true rfl) ?_
  unfold f_A_isFreeButFor at e
  show Go l D ad aC (rmk m_A_isFreeButFor) _ m_A_isFreeButFor 0 [some (.ref a0), some (.int x1), some (.int x2), some (.int x3), some (.int x4), some (.int x5), none] [] h 0 0
  refine Go.run (pc' := 3) [.iconst 0, .istore 6] (ls' := [some (.ref a0), some (.int x1), some (.int x2), some (.int x3), some (.int x4), some (.int x5), some (.int (0 : Int32))]) (st' := []) (by decide +kernel) rfl rfl ?_
  exact x_A_isFreeButFor_3 hf hI 4096 k0 e
def f_A_placeReason (h : HP) (a0 : Nat) (x1 : Int32) (x2 : Int32) (x3 : Int32) : Option (Int32) :=
  (f_S_hasDealer h (fld a0 0) x1).bind fun v1 =>
  if v1 = 0 then
    some (-1 : Int32)
  else
    (f_S_hasMetre h (fld a0 0) x2 x3).bind fun v4 =>
    if v4 = 0 then
      some (-1 : Int32)
    else
      (f_S_stands h (fld a0 0) x1).bind fun v7 =>
      if v7 = 0 then
        if ib x1 10 = true then
        (f_S_lengthOf h (fld a0 0) x2).bind fun v11 =>
        if (x3 + (h (fld (fld a0 0) 3) x1.toNatClampNeg)) ≤ v11 then
          if ib x1 10 = true then
          (f_A_isFreeButFor h a0 x2 x3 (h (fld (fld a0 0) 3) x1.toNatClampNeg) x1 x1).bind fun v15 =>
          if v15 = 0 then
            some (3 : Int32)
          else
            some (0 : Int32)
          else none
        else
          some (2 : Int32)
        else none
      else
        some (1 : Int32)
set_option maxHeartbeats 1000000 in
theorem x_A_placeReason {l : Launch} {D : va_G} {ad : Nat → Nat} {aC : Nat → ClassId} (hf : l.flags = flags0) (hI : Inj ad) {h : HP} {a0 : Nat} {x1 : Int32} {x2 : Int32} {x3 : Int32} {r : Int32} (k0 : knd a0 = 1) (e : f_A_placeReason h a0 x1 x2 x3 = some r) : CT l D ad aC m_A_placeReason [.ref a0, .int x1, .int x2, .int x3] h (.inl (some (.int r))) h := by
  refine CT.ofGo (by decide +kernel) rfl (Nat.le_of_ble_eq_true rfl) ?_
  unfold f_A_placeReason at e
  show Go l D ad aC (rmk m_A_placeReason) _ m_A_placeReason 0 [some (.ref a0), some (.int x1), some (.int x2), some (.int x3)] [] h 0 0
  refine Go.run (pc' := 1) [.aload_n 0] (ls' := [some (.ref a0), some (.int x1), some (.int x2), some (.int x3)]) (st' := [.ref a0]) (by decide +kernel) rfl rfl ?_
  refine Go.getR fo_A_12 k0 (by decide +kernel) ?_
  refine Go.run (pc' := 5) [.iload_n 1] (ls' := [some (.ref a0), some (.int x1), some (.int x2), some (.int x3)]) (st' := [.int x1, .ref (fld a0 0)]) (by decide +kernel) rfl rfl ?_
  obtain ⟨v1, e2, e⟩ := bd_inv e
  refine Go.callV (M2 := m_S_hasDealer) (a := (fld a0 0)) (as := [.int x1]) (rest := []) (v := some (.int v1)) (h1 := h) (x_S_hasDealer hf hI (kf_1_0 k0) e2) wv_A_121 (kf_1_0 k0) kc_6 (by decide +kernel) rfl rfl ⟨⟨Nat.le_of_ble_eq_true rfl, Nat.le_of_ble_eq_true rfl⟩, ⟨Nat.le_of_ble_eq_true rfl, Nat.le_of_ble_eq_true rfl⟩⟩ (Nat.le_of_ble_eq_true rfl) ?_
  show Go l D ad aC (rmk m_A_placeReason) _ m_A_placeReason 8 [some (.ref a0), some (.int x1), some (.int x2), some (.int x3)] [.int v1] h 0 0
  refine Go.if_eq (off := 15) (tgt := 23) (by decide +kernel) (by decide) (fun c3 => ?_) (fun c3 => ?_)
  · replace e := ite_t c3 e
    refine Go.run (pc' := 24) [.iconst (-1)] (ls' := [some (.ref a0), some (.int x1), some (.int x2), some (.int x3)]) (st' := [.int (-1 : Int32)]) (by decide +kernel) rfl rfl ?_
    obtain rfl := Option.some.inj e
    exact Go.iret rfl (by decide) (by decide) (by decide +kernel)
  · replace e := ite_f c3 e
    refine Go.run (pc' := 12) [.aload_n 0] (ls' := [some (.ref a0), some (.int x1), some (.int x2), some (.int x3)]) (st' := [.ref a0]) (by decide +kernel) rfl rfl ?_
    refine Go.getR fo_A_12 k0 (by decide +kernel) ?_
    refine Go.run (pc' := 17) [.iload_n 2, .iload_n 3] (ls' := [some (.ref a0), some (.int x1), some (.int x2), some (.int x3)]) (st' := [.int x3, .int x2, .ref (fld a0 0)]) (by decide +kernel) rfl rfl ?_
    obtain ⟨v4, e5, e⟩ := bd_inv e
    refine Go.callV (M2 := m_S_hasMetre) (a := (fld a0 0)) (as := [.int x2, .int x3]) (rest := []) (v := some (.int v4)) (h1 := h) (x_S_hasMetre hf hI (kf_1_0 k0) e5) wv_A_54 (kf_1_0 k0) kc_6 (by decide +kernel) rfl rfl ⟨⟨Nat.le_of_ble_eq_true rfl, Nat.le_of_ble_eq_true rfl⟩, ⟨Nat.le_of_ble_eq_true rfl, Nat.le_of_ble_eq_true rfl⟩⟩ (Nat.le_of_ble_eq_true rfl) ?_
    show Go l D ad aC (rmk m_A_placeReason) _ m_A_placeReason 20 [some (.ref a0), some (.int x1), some (.int x2), some (.int x3)] [.int v4] h 0 0
    refine Go.if_ne (off := 5) (tgt := 25) (by decide +kernel) (by decide) (fun c6 => ?_) (fun c6 => ?_)
    · replace e := ite_f c6 e
      refine Go.run (pc' := 26) [.aload_n 0] (ls' := [some (.ref a0), some (.int x1), some (.int x2), some (.int x3)]) (st' := [.ref a0]) (by decide +kernel) rfl rfl ?_
      refine Go.getR fo_A_12 k0 (by decide +kernel) ?_
      refine Go.run (pc' := 30) [.iload_n 1] (ls' := [some (.ref a0), some (.int x1), some (.int x2), some (.int x3)]) (st' := [.int x1, .ref (fld a0 0)]) (by decide +kernel) rfl rfl ?_
      obtain ⟨v7, e8, e⟩ := bd_inv e
      refine Go.callV (M2 := m_S_stands) (a := (fld a0 0)) (as := [.int x1]) (rest := []) (v := some (.int v7)) (h1 := h) (x_S_stands hf hI (kf_1_0 k0) e8) wv_A_89 (kf_1_0 k0) kc_6 (by decide +kernel) rfl rfl ⟨⟨Nat.le_of_ble_eq_true rfl, Nat.le_of_ble_eq_true rfl⟩, ⟨Nat.le_of_ble_eq_true rfl, Nat.le_of_ble_eq_true rfl⟩⟩ (Nat.le_of_ble_eq_true rfl) ?_
      show Go l D ad aC (rmk m_A_placeReason) _ m_A_placeReason 33 [some (.ref a0), some (.int x1), some (.int x2), some (.int x3)] [.int v7] h 0 0
      refine Go.if_eq (off := 5) (tgt := 38) (by decide +kernel) (by decide) (fun c9 => ?_) (fun c9 => ?_)
      · replace e := ite_t c9 e
        refine Go.run (pc' := 40) [.iload_n 3, .aload_n 0] (ls' := [some (.ref a0), some (.int x1), some (.int x2), some (.int x3)]) (st' := [.ref a0, .int x3]) (by decide +kernel) rfl rfl ?_
        refine Go.getR fo_A_12 k0 (by decide +kernel) ?_
        refine Go.getR fo_A_70 (kf_1_0 k0) (by decide +kernel) ?_
        refine Go.run (pc' := 47) [.iload_n 1] (ls' := [some (.ref a0), some (.int x1), some (.int x2), some (.int x3)]) (st' := [.int x1, .ref (fld (fld a0 0) 3), .int x3]) (by decide +kernel) rfl rfl ?_
        obtain ⟨g10, e⟩ := gd_inv e
        refine Go.iald (kf_6_j 3 (kf_1_0 k0) (by decide)) (al_6_j 3 (kf_1_0 k0) (by decide) rfl) g10 (by decide +kernel) ?_
        refine Go.run (pc' := 50) [.iadd, .aload_n 0] (ls' := [some (.ref a0), some (.int x1), some (.int x2), some (.int x3)]) (st' := [.ref a0, .int (x3 + (h (fld (fld a0 0) 3) x1.toNatClampNeg))]) (by decide +kernel) rfl rfl ?_
        refine Go.getR fo_A_12 k0 (by decide +kernel) ?_
        refine Go.run (pc' := 54) [.iload_n 2] (ls' := [some (.ref a0), some (.int x1), some (.int x2), some (.int x3)]) (st' := [.int x2, .ref (fld a0 0), .int (x3 + (h (fld (fld a0 0) 3) x1.toNatClampNeg))]) (by decide +kernel) rfl rfl ?_
        obtain ⟨v11, e12, e⟩ := bd_inv e
        refine Go.callV (M2 := m_S_lengthOf) (a := (fld a0 0)) (as := [.int x2]) (rest := [.int (x3 + (h (fld (fld a0 0) 3) x1.toNatClampNeg))]) (v := some (.int v11)) (h1 := h) (x_S_lengthOf hf hI (kf_1_0 k0) e12) wv_A_124 (kf_1_0 k0) kc_6 (by decide +kernel) rfl rfl ⟨⟨Nat.le_of_ble_eq_true rfl, Nat.le_of_ble_eq_true rfl⟩, ⟨Nat.le_of_ble_eq_true rfl, Nat.le_of_ble_eq_true rfl⟩⟩ (Nat.le_of_ble_eq_true rfl) ?_
        show Go l D ad aC (rmk m_A_placeReason) _ m_A_placeReason 57 [some (.ref a0), some (.int x1), some (.int x2), some (.int x3)] [.int v11, .int (x3 + (h (fld (fld a0 0) 3) x1.toNatClampNeg))] h 0 0
        refine Go.ic_le (off := 5) (tgt := 62) (by decide +kernel) (by decide) (fun c13 => ?_) (fun c13 => ?_)
        · replace e := ite_t c13 e
          refine Go.run (pc' := 66) [.aload_n 0, .iload_n 2, .iload_n 3, .aload_n 0] (ls' := [some (.ref a0), some (.int x1), some (.int x2), some (.int x3)]) (st' := [.ref a0, .int x3, .int x2, .ref a0]) (by decide +kernel) rfl rfl ?_
          refine Go.getR fo_A_12 k0 (by decide +kernel) ?_
          refine Go.getR fo_A_70 (kf_1_0 k0) (by decide +kernel) ?_
          refine Go.run (pc' := 73) [.iload_n 1] (ls' := [some (.ref a0), some (.int x1), some (.int x2), some (.int x3)]) (st' := [.int x1, .ref (fld (fld a0 0) 3), .int x3, .int x2, .ref a0]) (by decide +kernel) rfl rfl ?_
          obtain ⟨g14, e⟩ := gd_inv e
          refine Go.iald (kf_6_j 3 (kf_1_0 k0) (by decide)) (al_6_j 3 (kf_1_0 k0) (by decide) rfl) g14 (by decide +kernel) ?_
          refine Go.run (pc' := 76) [.iload_n 1, .iload_n 1] (ls' := [some (.ref a0), some (.int x1), some (.int x2), some (.int x3)]) (st' := [.int x1, .int x1, .int (h (fld (fld a0 0) 3) x1.toNatClampNeg), .int x3, .int x2, .ref a0]) (by decide +kernel) rfl rfl ?_
          obtain ⟨v15, e16, e⟩ := bd_inv e
          refine Go.callV (M2 := m_A_isFreeButFor) (a := a0) (as := [.int x2, .int x3, .int (h (fld (fld a0 0) 3) x1.toNatClampNeg), .int x1, .int x1]) (rest := []) (v := some (.int v15)) (h1 := h) (x_A_isFreeButFor hf hI k0 e16) wv_A_127 k0 kc_1 (by decide +kernel) rfl rfl ⟨⟨Nat.le_of_ble_eq_true rfl, Nat.le_of_ble_eq_true rfl⟩, ⟨Nat.le_of_ble_eq_true rfl, Nat.le_of_ble_eq_true rfl⟩⟩ (Nat.le_of_ble_eq_true rfl) ?_
          show Go l D ad aC (rmk m_A_placeReason) _ m_A_placeReason 79 [some (.ref a0), some (.int x1), some (.int x2), some (.int x3)] [.int v15] h 0 0
          refine Go.if_eq (off := 7) (tgt := 86) (by decide +kernel) (by decide) (fun c17 => ?_) (fun c17 => ?_)
          · replace e := ite_t c17 e
            refine Go.run (pc' := 87) [.iconst 3] (ls' := [some (.ref a0), some (.int x1), some (.int x2), some (.int x3)]) (st' := [.int (3 : Int32)]) (by decide +kernel) rfl rfl ?_
            obtain rfl := Option.some.inj e
            exact Go.iret rfl (by decide) (by decide) (by decide +kernel)
          · replace e := ite_f c17 e
            refine Go.run (pc' := 83) [.iconst 0] (ls' := [some (.ref a0), some (.int x1), some (.int x2), some (.int x3)]) (st' := [.int (0 : Int32)]) (by decide +kernel) rfl rfl ?_
            refine Go.goto (off := 4) (tgt := 87) (by decide +kernel) (by decide) ?_
            obtain rfl := Option.some.inj e
            exact Go.iret rfl (by decide) (by decide) (by decide +kernel)
        · replace e := ite_f c13 e
          refine Go.run (pc' := 61) [.iconst 2] (ls' := [some (.ref a0), some (.int x1), some (.int x2), some (.int x3)]) (st' := [.int (2 : Int32)]) (by decide +kernel) rfl rfl ?_
          obtain rfl := Option.some.inj e
          exact Go.iret rfl (by decide) (by decide) (by decide +kernel)
      · replace e := ite_f c9 e
        refine Go.run (pc' := 37) [.iconst 1] (ls' := [some (.ref a0), some (.int x1), some (.int x2), some (.int x3)]) (st' := [.int (1 : Int32)]) (by decide +kernel) rfl rfl ?_
        obtain rfl := Option.some.inj e
        exact Go.iret rfl (by decide) (by decide) (by decide +kernel)
    · replace e := ite_t c6 e
      refine Go.run (pc' := 24) [.iconst (-1)] (ls' := [some (.ref a0), some (.int x1), some (.int x2), some (.int x3)]) (st' := [.int (-1 : Int32)]) (by decide +kernel) rfl rfl ?_
      obtain rfl := Option.some.inj e
      exact Go.iret rfl (by decide) (by decide) (by decide +kernel)
def f_A_letStand (h : HP) (a0 : Nat) (x1 : Int32) (x2 : Int32) (x3 : Int32) : Option (Int32 × HP) :=
  (f_A_placeReason h a0 x1 x2 x3).bind fun v1 =>
  if v1 = 0 then
    if ib x1 10 = true then
    (some (hset h (fld (fld a0 0) 5) x1.toNatClampNeg x2)).bind fun h5 =>
    if ib x1 10 = true then
    (some (hset h5 (fld (fld a0 0) 6) x1.toNatClampNeg x3)).bind fun h8 =>
    (f_W_shareOut h8 (fld a0 1) (fld a0 0)).bind fun v10 =>
    some (v1, v10)
    else none
    else none
  else
    some (v1, h)
set_option maxHeartbeats 1000000 in
theorem x_A_letStand {l : Launch} {D : va_G} {ad : Nat → Nat} {aC : Nat → ClassId} (hf : l.flags = flags0) (hI : Inj ad) {h : HP} {a0 : Nat} {x1 : Int32} {x2 : Int32} {x3 : Int32} {r : Int32 × HP} (k0 : knd a0 = 1) (e : f_A_letStand h a0 x1 x2 x3 = some r) : CT l D ad aC m_A_letStand [.ref a0, .int x1, .int x2, .int x3] h (.inl (some (.int r.1))) r.2 := by
  refine CT.ofGo (by decide +kernel) rfl (Nat.le_of_ble_eq_true rfl) ?_
  unfold f_A_letStand at e
  show Go l D ad aC (rmk m_A_letStand) _ m_A_letStand 0 [some (.ref a0), some (.int x1), some (.int x2), some (.int x3), none] [] h 0 0
  refine Go.run (pc' := 4) [.aload_n 0, .iload_n 1, .iload_n 2, .iload_n 3] (ls' := [some (.ref a0), some (.int x1), some (.int x2), some (.int x3), none]) (st' := [.int x3, .int x2, .int x1, .ref a0]) (by decide +kernel) rfl rfl ?_
  obtain ⟨v1, e2, e⟩ := bd_inv e
  refine Go.callV (M2 := m_A_placeReason) (a := a0) (as := [.int x1, .int x2, .int x3]) (rest := []) (v := some (.int v1)) (h1 := h) (x_A_placeReason hf hI k0 e2) wv_A_85 k0 kc_1 (by decide +kernel) rfl rfl ⟨⟨Nat.le_of_ble_eq_true rfl, Nat.le_of_ble_eq_true rfl⟩, ⟨Nat.le_of_ble_eq_true rfl, Nat.le_of_ble_eq_true rfl⟩⟩ (Nat.le_of_ble_eq_true rfl) ?_
  show Go l D ad aC (rmk m_A_letStand) _ m_A_letStand 7 [some (.ref a0), some (.int x1), some (.int x2), some (.int x3), none] [.int v1] h 0 0
  refine Go.run (pc' := 11) [.istore 4, .iload 4] (ls' := [some (.ref a0), some (.int x1), some (.int x2), some (.int x3), some (.int v1)]) (st' := [.int v1]) (by decide +kernel) rfl rfl ?_
  refine Go.if_ne (off := 34) (tgt := 45) (by decide +kernel) (by decide) (fun c3 => ?_) (fun c3 => ?_)
  · replace e := ite_f c3 e
    refine Go.run (pc' := 47) [.iload 4] (ls' := [some (.ref a0), some (.int x1), some (.int x2), some (.int x3), some (.int v1)]) (st' := [.int v1]) (by decide +kernel) rfl rfl ?_
    obtain rfl := Option.some.inj e
    exact Go.iret rfl (by decide) (by decide) (by decide +kernel)
  · replace e := ite_t c3 e
    refine Go.run (pc' := 15) [.aload_n 0] (ls' := [some (.ref a0), some (.int x1), some (.int x2), some (.int x3), some (.int v1)]) (st' := [.ref a0]) (by decide +kernel) rfl rfl ?_
    refine Go.getR fo_A_12 k0 (by decide +kernel) ?_
    refine Go.getR fo_A_76 (kf_1_0 k0) (by decide +kernel) ?_
    refine Go.run (pc' := 23) [.iload_n 1, .iload_n 2] (ls' := [some (.ref a0), some (.int x1), some (.int x2), some (.int x3), some (.int v1)]) (st' := [.int x2, .int x1, .ref (fld (fld a0 0) 5)]) (by decide +kernel) rfl rfl ?_
    obtain ⟨g4, e⟩ := gd_inv e
    refine Go.iast hI (kf_6_j 5 (kf_1_0 k0) (by decide)) (al_6_j 5 (kf_1_0 k0) (by decide) rfl) g4 (by decide +kernel) ?_
    obtain ⟨h5, q6, e⟩ := bd_inv e
    refine Go.eqH (Option.some.inj q6) ?_
    refine Go.run (pc' := 25) [.aload_n 0] (ls' := [some (.ref a0), some (.int x1), some (.int x2), some (.int x3), some (.int v1)]) (st' := [.ref a0]) (by decide +kernel) rfl rfl ?_
    refine Go.getR fo_A_12 k0 (by decide +kernel) ?_
    refine Go.getR fo_A_79 (kf_1_0 k0) (by decide +kernel) ?_
    refine Go.run (pc' := 33) [.iload_n 1, .iload_n 3] (ls' := [some (.ref a0), some (.int x1), some (.int x2), some (.int x3), some (.int v1)]) (st' := [.int x3, .int x1, .ref (fld (fld a0 0) 6)]) (by decide +kernel) rfl rfl ?_
    obtain ⟨g7, e⟩ := gd_inv e
    refine Go.iast hI (kf_6_j 6 (kf_1_0 k0) (by decide)) (al_6_j 6 (kf_1_0 k0) (by decide) rfl) g7 (by decide +kernel) ?_
    obtain ⟨h8, q9, e⟩ := bd_inv e
    refine Go.eqH (Option.some.inj q9) ?_
    refine Go.run (pc' := 35) [.aload_n 0] (ls' := [some (.ref a0), some (.int x1), some (.int x2), some (.int x3), some (.int v1)]) (st' := [.ref a0]) (by decide +kernel) rfl rfl ?_
    refine Go.getR fo_A_21 k0 (by decide +kernel) ?_
    refine Go.run (pc' := 39) [.aload_n 0] (ls' := [some (.ref a0), some (.int x1), some (.int x2), some (.int x3), some (.int v1)]) (st' := [.ref a0, .ref (fld a0 1)]) (by decide +kernel) rfl rfl ?_
    refine Go.getR fo_A_12 k0 (by decide +kernel) ?_
    obtain ⟨v10, e11, e⟩ := bd_inv e
    refine Go.callV (M2 := m_W_shareOut) (a := (fld a0 1)) (as := [.ref (fld a0 0)]) (rest := []) (v := none) (h1 := v10) (x_W_shareOut hf hI (kf_1_1 k0) (kf_1_0 k0) e11) wv_A_36 (kf_1_1 k0) kc_4 (by decide +kernel) rfl rfl ⟨⟨Nat.le_of_ble_eq_true rfl, Nat.le_of_ble_eq_true rfl⟩, ⟨Nat.le_of_ble_eq_true rfl, Nat.le_of_ble_eq_true rfl⟩⟩ (Nat.le_of_ble_eq_true rfl) ?_
    show Go l D ad aC (rmk m_A_letStand) _ m_A_letStand 45 [some (.ref a0), some (.int x1), some (.int x2), some (.int x3), some (.int v1)] [] v10 0 0
    refine Go.run (pc' := 47) [.iload 4] (ls' := [some (.ref a0), some (.int x1), some (.int x2), some (.int x3), some (.int v1)]) (st' := [.int v1]) (by decide +kernel) rfl rfl ?_
    obtain rfl := Option.some.inj e
    exact Go.iret rfl (by decide) (by decide) (by decide +kernel)
def f_A_sendAway (h : HP) (a0 : Nat) (x1 : Int32) : Option (Int32 × HP) :=
  (f_S_stands h (fld a0 0) x1).bind fun v1 =>
  if v1 = 0 then
    some ((-1 : Int32), h)
  else
    if ib x1 10 = true then
    (some (hset h (fld (fld a0 0) 5) x1.toNatClampNeg (-1 : Int32))).bind fun h5 =>
    if ib x1 10 = true then
    (some (hset h5 (fld (fld a0 0) 6) x1.toNatClampNeg (-1 : Int32))).bind fun h8 =>
    (f_W_shareOut h8 (fld a0 1) (fld a0 0)).bind fun v10 =>
    if ib x1 10 = true then
    some (v10 (fld (fld a0 0) 7) x1.toNatClampNeg, v10)
    else none
    else none
    else none
set_option maxHeartbeats 1000000 in
theorem x_A_sendAway {l : Launch} {D : va_G} {ad : Nat → Nat} {aC : Nat → ClassId} (hf : l.flags = flags0) (hI : Inj ad) {h : HP} {a0 : Nat} {x1 : Int32} {r : Int32 × HP} (k0 : knd a0 = 1) (e : f_A_sendAway h a0 x1 = some r) : CT l D ad aC m_A_sendAway [.ref a0, .int x1] h (.inl (some (.int r.1))) r.2 := by
  refine CT.ofGo (by decide +kernel) rfl (Nat.le_of_ble_eq_true rfl) ?_
  unfold f_A_sendAway at e
  show Go l D ad aC (rmk m_A_sendAway) _ m_A_sendAway 0 [some (.ref a0), some (.int x1)] [] h 0 0
  refine Go.run (pc' := 1) [.aload_n 0] (ls' := [some (.ref a0), some (.int x1)]) (st' := [.ref a0]) (by decide +kernel) rfl rfl ?_
  refine Go.getR fo_A_12 k0 (by decide +kernel) ?_
  refine Go.run (pc' := 5) [.iload_n 1] (ls' := [some (.ref a0), some (.int x1)]) (st' := [.int x1, .ref (fld a0 0)]) (by decide +kernel) rfl rfl ?_
  obtain ⟨v1, e2, e⟩ := bd_inv e
  refine Go.callV (M2 := m_S_stands) (a := (fld a0 0)) (as := [.int x1]) (rest := []) (v := some (.int v1)) (h1 := h) (x_S_stands hf hI (kf_1_0 k0) e2) wv_A_89 (kf_1_0 k0) kc_6 (by decide +kernel) rfl rfl ⟨⟨Nat.le_of_ble_eq_true rfl, Nat.le_of_ble_eq_true rfl⟩, ⟨Nat.le_of_ble_eq_true rfl, Nat.le_of_ble_eq_true rfl⟩⟩ (Nat.le_of_ble_eq_true rfl) ?_
  show Go l D ad aC (rmk m_A_sendAway) _ m_A_sendAway 8 [some (.ref a0), some (.int x1)] [.int v1] h 0 0
  refine Go.if_ne (off := 5) (tgt := 13) (by decide +kernel) (by decide) (fun c3 => ?_) (fun c3 => ?_)
  · replace e := ite_f c3 e
    refine Go.run (pc' := 14) [.aload_n 0] (ls' := [some (.ref a0), some (.int x1)]) (st' := [.ref a0]) (by decide +kernel) rfl rfl ?_
    refine Go.getR fo_A_12 k0 (by decide +kernel) ?_
    refine Go.getR fo_A_76 (kf_1_0 k0) (by decide +kernel) ?_
    refine Go.run (pc' := 22) [.iload_n 1, .iconst (-1)] (ls' := [some (.ref a0), some (.int x1)]) (st' := [.int (-1 : Int32), .int x1, .ref (fld (fld a0 0) 5)]) (by decide +kernel) rfl rfl ?_
    obtain ⟨g4, e⟩ := gd_inv e
    refine Go.iast hI (kf_6_j 5 (kf_1_0 k0) (by decide)) (al_6_j 5 (kf_1_0 k0) (by decide) rfl) g4 (by decide +kernel) ?_
    obtain ⟨h5, q6, e⟩ := bd_inv e
    refine Go.eqH (Option.some.inj q6) ?_
    refine Go.run (pc' := 24) [.aload_n 0] (ls' := [some (.ref a0), some (.int x1)]) (st' := [.ref a0]) (by decide +kernel) rfl rfl ?_
    refine Go.getR fo_A_12 k0 (by decide +kernel) ?_
    refine Go.getR fo_A_79 (kf_1_0 k0) (by decide +kernel) ?_
    refine Go.run (pc' := 32) [.iload_n 1, .iconst (-1)] (ls' := [some (.ref a0), some (.int x1)]) (st' := [.int (-1 : Int32), .int x1, .ref (fld (fld a0 0) 6)]) (by decide +kernel) rfl rfl ?_
    obtain ⟨g7, e⟩ := gd_inv e
    refine Go.iast hI (kf_6_j 6 (kf_1_0 k0) (by decide)) (al_6_j 6 (kf_1_0 k0) (by decide) rfl) g7 (by decide +kernel) ?_
    obtain ⟨h8, q9, e⟩ := bd_inv e
    refine Go.eqH (Option.some.inj q9) ?_
    refine Go.run (pc' := 34) [.aload_n 0] (ls' := [some (.ref a0), some (.int x1)]) (st' := [.ref a0]) (by decide +kernel) rfl rfl ?_
    refine Go.getR fo_A_21 k0 (by decide +kernel) ?_
    refine Go.run (pc' := 38) [.aload_n 0] (ls' := [some (.ref a0), some (.int x1)]) (st' := [.ref a0, .ref (fld a0 1)]) (by decide +kernel) rfl rfl ?_
    refine Go.getR fo_A_12 k0 (by decide +kernel) ?_
    obtain ⟨v10, e11, e⟩ := bd_inv e
    refine Go.callV (M2 := m_W_shareOut) (a := (fld a0 1)) (as := [.ref (fld a0 0)]) (rest := []) (v := none) (h1 := v10) (x_W_shareOut hf hI (kf_1_1 k0) (kf_1_0 k0) e11) wv_A_36 (kf_1_1 k0) kc_4 (by decide +kernel) rfl rfl ⟨⟨Nat.le_of_ble_eq_true rfl, Nat.le_of_ble_eq_true rfl⟩, ⟨Nat.le_of_ble_eq_true rfl, Nat.le_of_ble_eq_true rfl⟩⟩ (Nat.le_of_ble_eq_true rfl) ?_
    show Go l D ad aC (rmk m_A_sendAway) _ m_A_sendAway 44 [some (.ref a0), some (.int x1)] [] v10 0 0
    refine Go.run (pc' := 45) [.aload_n 0] (ls' := [some (.ref a0), some (.int x1)]) (st' := [.ref a0]) (by decide +kernel) rfl rfl ?_
    refine Go.getR fo_A_12 k0 (by decide +kernel) ?_
    refine Go.getR fo_A_82 (kf_1_0 k0) (by decide +kernel) ?_
    refine Go.run (pc' := 52) [.iload_n 1] (ls' := [some (.ref a0), some (.int x1)]) (st' := [.int x1, .ref (fld (fld a0 0) 7)]) (by decide +kernel) rfl rfl ?_
    obtain ⟨g12, e⟩ := gd_inv e
    refine Go.iald (kf_6_j 7 (kf_1_0 k0) (by decide)) (al_6_j 7 (kf_1_0 k0) (by decide) rfl) g12 (by decide +kernel) ?_
    obtain rfl := Option.some.inj e
    exact Go.iret rfl (by decide) (by decide) (by decide +kernel)
  · replace e := ite_t c3 e
    refine Go.run (pc' := 12) [.iconst (-1)] (ls' := [some (.ref a0), some (.int x1)]) (st' := [.int (-1 : Int32)]) (by decide +kernel) rfl rfl ?_
    obtain rfl := Option.some.inj e
    exact Go.iret rfl (by decide) (by decide) (by decide +kernel)
def f_A_fitsBothAway (h : HP) (a0 : Nat) (x1 : Int32) (x2 : Int32) : Option (Int32) :=
  if ib x2 10 = true then
  if ib x2 10 = true then
  if ib x1 10 = true then
  (f_S_lengthOf h (fld a0 0) (h (fld (fld a0 0) 5) x2.toNatClampNeg)).bind fun v4 =>
  if v4 < ((h (fld (fld a0 0) 6) x2.toNatClampNeg) + (h (fld (fld a0 0) 3) x1.toNatClampNeg)) then
    some (0 : Int32)
  else
    if ib x1 10 = true then
    (f_A_isFreeButFor h a0 (h (fld (fld a0 0) 5) x2.toNatClampNeg) (h (fld (fld a0 0) 6) x2.toNatClampNeg) (h (fld (fld a0 0) 3) x1.toNatClampNeg) x1 x2).bind fun v8 =>
    if v8 = 0 then
      some (0 : Int32)
    else
      some (1 : Int32)
    else none
  else none
  else none
  else none
set_option maxHeartbeats 1000000 in
theorem x_A_fitsBothAway {l : Launch} {D : va_G} {ad : Nat → Nat} {aC : Nat → ClassId} (hf : l.flags = flags0) (hI : Inj ad) {h : HP} {a0 : Nat} {x1 : Int32} {x2 : Int32} {r : Int32} (k0 : knd a0 = 1) (e : f_A_fitsBothAway h a0 x1 x2 = some r) : CT l D ad aC m_A_fitsBothAway [.ref a0, .int x1, .int x2] h (.inl (some (.int r))) h := by
  refine CT.ofGo (by decide +kernel) rfl (Nat.le_of_ble_eq_true rfl) ?_
  unfold f_A_fitsBothAway at e
  show Go l D ad aC (rmk m_A_fitsBothAway) _ m_A_fitsBothAway 0 [some (.ref a0), some (.int x1), some (.int x2), none, none] [] h 0 0
  refine Go.run (pc' := 1) [.aload_n 0] (ls' := [some (.ref a0), some (.int x1), some (.int x2), none, none]) (st' := [.ref a0]) (by decide +kernel) rfl rfl ?_
  refine Go.getR fo_A_12 k0 (by decide +kernel) ?_
  refine Go.getR fo_A_76 (kf_1_0 k0) (by decide +kernel) ?_
  refine Go.run (pc' := 8) [.iload_n 2] (ls' := [some (.ref a0), some (.int x1), some (.int x2), none, none]) (st' := [.int x2, .ref (fld (fld a0 0) 5)]) (by decide +kernel) rfl rfl ?_
  obtain ⟨g1, e⟩ := gd_inv e
  refine Go.iald (kf_6_j 5 (kf_1_0 k0) (by decide)) (al_6_j 5 (kf_1_0 k0) (by decide) rfl) g1 (by decide +kernel) ?_
  refine Go.run (pc' := 11) [.istore_n 3, .aload_n 0] (ls' := [some (.ref a0), some (.int x1), some (.int x2), some (.int (h (fld (fld a0 0) 5) x2.toNatClampNeg)), none]) (st' := [.ref a0]) (by decide +kernel) rfl rfl ?_
  refine Go.getR fo_A_12 k0 (by decide +kernel) ?_
  refine Go.getR fo_A_79 (kf_1_0 k0) (by decide +kernel) ?_
  refine Go.run (pc' := 18) [.iload_n 2] (ls' := [some (.ref a0), some (.int x1), some (.int x2), some (.int (h (fld (fld a0 0) 5) x2.toNatClampNeg)), none]) (st' := [.int x2, .ref (fld (fld a0 0) 6)]) (by decide +kernel) rfl rfl ?_
  obtain ⟨g2, e⟩ := gd_inv e
  refine Go.iald (kf_6_j 6 (kf_1_0 k0) (by decide)) (al_6_j 6 (kf_1_0 k0) (by decide) rfl) g2 (by decide +kernel) ?_
  refine Go.run (pc' := 24) [.istore 4, .iload 4, .aload_n 0] (ls' := [some (.ref a0), some (.int x1), some (.int x2), some (.int (h (fld (fld a0 0) 5) x2.toNatClampNeg)), some (.int (h (fld (fld a0 0) 6) x2.toNatClampNeg))]) (st' := [.ref a0, .int (h (fld (fld a0 0) 6) x2.toNatClampNeg)]) (by decide +kernel) rfl rfl ?_
  refine Go.getR fo_A_12 k0 (by decide +kernel) ?_
  refine Go.getR fo_A_70 (kf_1_0 k0) (by decide +kernel) ?_
  refine Go.run (pc' := 31) [.iload_n 1] (ls' := [some (.ref a0), some (.int x1), some (.int x2), some (.int (h (fld (fld a0 0) 5) x2.toNatClampNeg)), some (.int (h (fld (fld a0 0) 6) x2.toNatClampNeg))]) (st' := [.int x1, .ref (fld (fld a0 0) 3), .int (h (fld (fld a0 0) 6) x2.toNatClampNeg)]) (by decide +kernel) rfl rfl ?_
  obtain ⟨g3, e⟩ := gd_inv e
  refine Go.iald (kf_6_j 3 (kf_1_0 k0) (by decide)) (al_6_j 3 (kf_1_0 k0) (by decide) rfl) g3 (by decide +kernel) ?_
  refine Go.run (pc' := 34) [.iadd, .aload_n 0] (ls' := [some (.ref a0), some (.int x1), some (.int x2), some (.int (h (fld (fld a0 0) 5) x2.toNatClampNeg)), some (.int (h (fld (fld a0 0) 6) x2.toNatClampNeg))]) (st' := [.ref a0, .int ((h (fld (fld a0 0) 6) x2.toNatClampNeg) + (h (fld (fld a0 0) 3) x1.toNatClampNeg))]) (by decide +kernel) rfl rfl ?_
  refine Go.getR fo_A_12 k0 (by decide +kernel) ?_
  refine Go.run (pc' := 38) [.iload_n 3] (ls' := [some (.ref a0), some (.int x1), some (.int x2), some (.int (h (fld (fld a0 0) 5) x2.toNatClampNeg)), some (.int (h (fld (fld a0 0) 6) x2.toNatClampNeg))]) (st' := [.int (h (fld (fld a0 0) 5) x2.toNatClampNeg), .ref (fld a0 0), .int ((h (fld (fld a0 0) 6) x2.toNatClampNeg) + (h (fld (fld a0 0) 3) x1.toNatClampNeg))]) (by decide +kernel) rfl rfl ?_
  obtain ⟨v4, e5, e⟩ := bd_inv e
  refine Go.callV (M2 := m_S_lengthOf) (a := (fld a0 0)) (as := [.int (h (fld (fld a0 0) 5) x2.toNatClampNeg)]) (rest := [.int ((h (fld (fld a0 0) 6) x2.toNatClampNeg) + (h (fld (fld a0 0) 3) x1.toNatClampNeg))]) (v := some (.int v4)) (h1 := h) (x_S_lengthOf hf hI (kf_1_0 k0) e5) wv_A_124 (kf_1_0 k0) kc_6 (by decide +kernel) rfl rfl ⟨⟨Nat.le_of_ble_eq_true rfl, Nat.le_of_ble_eq_true rfl⟩, ⟨Nat.le_of_ble_eq_true rfl, Nat.le_of_ble_eq_true rfl⟩⟩ (Nat.le_of_ble_eq_true rfl) ?_
  show Go l D ad aC (rmk m_A_fitsBothAway) _ m_A_fitsBothAway 41 [some (.ref a0), some (.int x1), some (.int x2), some (.int (h (fld (fld a0 0) 5) x2.toNatClampNeg)), some (.int (h (fld (fld a0 0) 6) x2.toNatClampNeg))] [.int v4, .int ((h (fld (fld a0 0) 6) x2.toNatClampNeg) + (h (fld (fld a0 0) 3) x1.toNatClampNeg))] h 0 0
  refine Go.ic_gt (off := 28) (tgt := 69) (by decide +kernel) (by decide) (fun c6 => ?_) (fun c6 => ?_)
  · replace e := ite_t c6 e
    refine Go.run (pc' := 70) [.iconst 0] (ls' := [some (.ref a0), some (.int x1), some (.int x2), some (.int (h (fld (fld a0 0) 5) x2.toNatClampNeg)), some (.int (h (fld (fld a0 0) 6) x2.toNatClampNeg))]) (st' := [.int (0 : Int32)]) (by decide +kernel) rfl rfl ?_
    obtain rfl := Option.some.inj e
    exact Go.zret rfl nar_z0 (by decide) (by decide) (by decide +kernel)
  · replace e := ite_f c6 e
    refine Go.run (pc' := 49) [.aload_n 0, .iload_n 3, .iload 4, .aload_n 0] (ls' := [some (.ref a0), some (.int x1), some (.int x2), some (.int (h (fld (fld a0 0) 5) x2.toNatClampNeg)), some (.int (h (fld (fld a0 0) 6) x2.toNatClampNeg))]) (st' := [.ref a0, .int (h (fld (fld a0 0) 6) x2.toNatClampNeg), .int (h (fld (fld a0 0) 5) x2.toNatClampNeg), .ref a0]) (by decide +kernel) rfl rfl ?_
    refine Go.getR fo_A_12 k0 (by decide +kernel) ?_
    refine Go.getR fo_A_70 (kf_1_0 k0) (by decide +kernel) ?_
    refine Go.run (pc' := 56) [.iload_n 1] (ls' := [some (.ref a0), some (.int x1), some (.int x2), some (.int (h (fld (fld a0 0) 5) x2.toNatClampNeg)), some (.int (h (fld (fld a0 0) 6) x2.toNatClampNeg))]) (st' := [.int x1, .ref (fld (fld a0 0) 3), .int (h (fld (fld a0 0) 6) x2.toNatClampNeg), .int (h (fld (fld a0 0) 5) x2.toNatClampNeg), .ref a0]) (by decide +kernel) rfl rfl ?_
    obtain ⟨g7, e⟩ := gd_inv e
    refine Go.iald (kf_6_j 3 (kf_1_0 k0) (by decide)) (al_6_j 3 (kf_1_0 k0) (by decide) rfl) g7 (by decide +kernel) ?_
    refine Go.run (pc' := 59) [.iload_n 1, .iload_n 2] (ls' := [some (.ref a0), some (.int x1), some (.int x2), some (.int (h (fld (fld a0 0) 5) x2.toNatClampNeg)), some (.int (h (fld (fld a0 0) 6) x2.toNatClampNeg))]) (st' := [.int x2, .int x1, .int (h (fld (fld a0 0) 3) x1.toNatClampNeg), .int (h (fld (fld a0 0) 6) x2.toNatClampNeg), .int (h (fld (fld a0 0) 5) x2.toNatClampNeg), .ref a0]) (by decide +kernel) rfl rfl ?_
    obtain ⟨v8, e9, e⟩ := bd_inv e
    refine Go.callV (M2 := m_A_isFreeButFor) (a := a0) (as := [.int (h (fld (fld a0 0) 5) x2.toNatClampNeg), .int (h (fld (fld a0 0) 6) x2.toNatClampNeg), .int (h (fld (fld a0 0) 3) x1.toNatClampNeg), .int x1, .int x2]) (rest := []) (v := some (.int v8)) (h1 := h) (x_A_isFreeButFor hf hI k0 e9) wv_A_127 k0 kc_1 (by decide +kernel) rfl rfl ⟨⟨Nat.le_of_ble_eq_true rfl, Nat.le_of_ble_eq_true rfl⟩, ⟨Nat.le_of_ble_eq_true rfl, Nat.le_of_ble_eq_true rfl⟩⟩ (Nat.le_of_ble_eq_true rfl) ?_
    show Go l D ad aC (rmk m_A_fitsBothAway) _ m_A_fitsBothAway 62 [some (.ref a0), some (.int x1), some (.int x2), some (.int (h (fld (fld a0 0) 5) x2.toNatClampNeg)), some (.int (h (fld (fld a0 0) 6) x2.toNatClampNeg))] [.int v8] h 0 0
    refine Go.if_eq (off := 7) (tgt := 69) (by decide +kernel) (by decide) (fun c10 => ?_) (fun c10 => ?_)
    · replace e := ite_t c10 e
      refine Go.run (pc' := 70) [.iconst 0] (ls' := [some (.ref a0), some (.int x1), some (.int x2), some (.int (h (fld (fld a0 0) 5) x2.toNatClampNeg)), some (.int (h (fld (fld a0 0) 6) x2.toNatClampNeg))]) (st' := [.int (0 : Int32)]) (by decide +kernel) rfl rfl ?_
      obtain rfl := Option.some.inj e
      exact Go.zret rfl nar_z0 (by decide) (by decide) (by decide +kernel)
    · replace e := ite_f c10 e
      refine Go.run (pc' := 66) [.iconst 1] (ls' := [some (.ref a0), some (.int x1), some (.int x2), some (.int (h (fld (fld a0 0) 5) x2.toNatClampNeg)), some (.int (h (fld (fld a0 0) 6) x2.toNatClampNeg))]) (st' := [.int (1 : Int32)]) (by decide +kernel) rfl rfl ?_
      refine Go.goto (off := 4) (tgt := 70) (by decide +kernel) (by decide) ?_
      obtain rfl := Option.some.inj e
      exact Go.zret rfl nar_z1 (by decide) (by decide) (by decide +kernel)
def f_A_swapReason_153 (h : HP)  (a0 : Nat) (x1 : Int32) (x2 : Int32) (s0 : Int32) : Option (Int32) :=
  (f_A_fitsBothAway h a0 x2 x1).bind fun v1 =>
  if v1 = 0 then
    some (4 : Int32)
  else
    if s0 = 0 then
      some (0 : Int32)
    else
      some (4 : Int32)
set_option maxHeartbeats 1000000 in
theorem x_A_swapReason_153 {l : Launch} {D : va_G} {ad : Nat → Nat} {aC : Nat → ClassId} (hf : l.flags = flags0) (hI : Inj ad) {h : HP} {a0 : Nat} {x1 : Int32} {x2 : Int32} {s0 : Int32} {r : Int32} (k0 : knd a0 = 1) (e : f_A_swapReason_153 h a0 x1 x2 s0 = some r) : Go l D ad aC (rmk m_A_swapReason) (QM D ad aC m_A_swapReason (.inl (some (.int r))) h) m_A_swapReason 153 [some (.ref a0), some (.int x1), some (.int x2), none] [.int s0] h 0 0 := by
  unfold f_A_swapReason_153 at e
  refine Go.run (pc' := 157) [.istore_n 3, .aload_n 0, .iload_n 2, .iload_n 1] (ls' := [some (.ref a0), some (.int x1), some (.int x2), some (.int s0)]) (st' := [.int x1, .int x2, .ref a0]) (by decide +kernel) rfl rfl ?_
  obtain ⟨v1, e2, e⟩ := bd_inv e
  refine Go.callV (M2 := m_A_fitsBothAway) (a := a0) (as := [.int x2, .int x1]) (rest := []) (v := some (.int v1)) (h1 := h) (x_A_fitsBothAway hf hI k0 e2) wv_A_131 k0 kc_1 (by decide +kernel) rfl rfl ⟨⟨Nat.le_of_ble_eq_true rfl, Nat.le_of_ble_eq_true rfl⟩, ⟨Nat.le_of_ble_eq_true rfl, Nat.le_of_ble_eq_true rfl⟩⟩ (Nat.le_of_ble_eq_true rfl) ?_
  show Go l D ad aC (rmk m_A_swapReason) _ m_A_swapReason 160 [some (.ref a0), some (.int x1), some (.int x2), some (.int s0)] [.int v1] h 0 0
  refine Go.if_eq (off := 11) (tgt := 171) (by decide +kernel) (by decide) (fun c3 => ?_) (fun c3 => ?_)
  · replace e := ite_t c3 e
    refine Go.run (pc' := 172) [.iconst 4] (ls' := [some (.ref a0), some (.int x1), some (.int x2), some (.int s0)]) (st' := [.int (4 : Int32)]) (by decide +kernel) rfl rfl ?_
    obtain rfl := Option.some.inj e
    exact Go.iret rfl (by decide) (by decide) (by decide +kernel)
  · replace e := ite_f c3 e
    refine Go.run (pc' := 164) [.iload_n 3] (ls' := [some (.ref a0), some (.int x1), some (.int x2), some (.int s0)]) (st' := [.int s0]) (by decide +kernel) rfl rfl ?_
    refine Go.if_ne (off := 7) (tgt := 171) (by decide +kernel) (by decide) (fun c4 => ?_) (fun c4 => ?_)
    · replace e := ite_f c4 e
      refine Go.run (pc' := 172) [.iconst 4] (ls' := [some (.ref a0), some (.int x1), some (.int x2), some (.int s0)]) (st' := [.int (4 : Int32)]) (by decide +kernel) rfl rfl ?_
      obtain rfl := Option.some.inj e
      exact Go.iret rfl (by decide) (by decide) (by decide +kernel)
    · replace e := ite_t c4 e
      refine Go.run (pc' := 168) [.iconst 0] (ls' := [some (.ref a0), some (.int x1), some (.int x2), some (.int s0)]) (st' := [.int (0 : Int32)]) (by decide +kernel) rfl rfl ?_
      refine Go.goto (off := 4) (tgt := 172) (by decide +kernel) (by decide) ?_
      obtain rfl := Option.some.inj e
      exact Go.iret rfl (by decide) (by decide) (by decide +kernel)
def f_A_swapReason_152 (h : HP)  (a0 : Nat) (x1 : Int32) (x2 : Int32) : Option (Int32) :=
  f_A_swapReason_153 h a0 x1 x2 (0 : Int32)
set_option maxHeartbeats 1000000 in
theorem x_A_swapReason_152 {l : Launch} {D : va_G} {ad : Nat → Nat} {aC : Nat → ClassId} (hf : l.flags = flags0) (hI : Inj ad) {h : HP} {a0 : Nat} {x1 : Int32} {x2 : Int32} {r : Int32} (k0 : knd a0 = 1) (e : f_A_swapReason_152 h a0 x1 x2 = some r) : Go l D ad aC (rmk m_A_swapReason) (QM D ad aC m_A_swapReason (.inl (some (.int r))) h) m_A_swapReason 152 [some (.ref a0), some (.int x1), some (.int x2), none] [] h 0 0 := by
  unfold f_A_swapReason_152 at e
  refine Go.run (pc' := 153) [.iconst 0] (ls' := [some (.ref a0), some (.int x1), some (.int x2), none]) (st' := [.int (0 : Int32)]) (by decide +kernel) rfl rfl ?_
  exact x_A_swapReason_153 hf hI k0 e
def f_A_swapReason (h : HP) (a0 : Nat) (x1 : Int32) (x2 : Int32) : Option (Int32) :=
  (f_S_hasDealer h (fld a0 0) x1).bind fun v1 =>
  if v1 = 0 then
    some (-1 : Int32)
  else
    (f_S_hasDealer h (fld a0 0) x2).bind fun v4 =>
    if v4 = 0 then
      some (-1 : Int32)
    else
      if x1 = x2 then
        some (-1 : Int32)
      else
        (f_S_stands h (fld a0 0) x1).bind fun v8 =>
        if v8 = 0 then
          some (1 : Int32)
        else
          (f_S_stands h (fld a0 0) x2).bind fun v11 =>
          if v11 = 0 then
            some (1 : Int32)
          else
            if ib (5 : Int32) 6 = true then
            if (h (fld a0 0) 12) < (h (fld (fld a0 0) 8) (5 : Int32).toNatClampNeg) then
              (f_A_fitsBothAway h a0 x1 x2).bind fun v16 =>
              if v16 = 0 then
                some (3 : Int32)
              else
                if ib x1 10 = true then
                if ib x2 10 = true then
                if (h (fld (fld a0 0) 5) x1.toNatClampNeg) = (h (fld (fld a0 0) 5) x2.toNatClampNeg) then
                  if ib x2 10 = true then
                  if ib x1 10 = true then
                  if ib x1 10 = true then
                  if ib x2 10 = true then
                  (f_A_overlap h (h (fld (fld a0 0) 6) x2.toNatClampNeg) (h (fld (fld a0 0) 3) x1.toNatClampNeg) (h (fld (fld a0 0) 6) x1.toNatClampNeg) (h (fld (fld a0 0) 3) x2.toNatClampNeg)).bind fun v26 =>
                  if v26 = 0 then
                    f_A_swapReason_152 h a0 x1 x2
                  else
                    f_A_swapReason_153 h a0 x1 x2 (1 : Int32)
                  else none
                  else none
                  else none
                  else none
                else
                  f_A_swapReason_152 h a0 x1 x2
                else none
                else none
            else
              some (2 : Int32)
            else none
set_option maxHeartbeats 1000000 in
theorem x_A_swapReason {l : Launch} {D : va_G} {ad : Nat → Nat} {aC : Nat → ClassId} (hf : l.flags = flags0) (hI : Inj ad) {h : HP} {a0 : Nat} {x1 : Int32} {x2 : Int32} {r : Int32} (k0 : knd a0 = 1) (e : f_A_swapReason h a0 x1 x2 = some r) : CT l D ad aC m_A_swapReason [.ref a0, .int x1, .int x2] h (.inl (some (.int r))) h := by
  refine CT.ofGo (by decide +kernel) rfl (Nat.le_of_ble_eq_true rfl) ?_
  unfold f_A_swapReason at e
  show Go l D ad aC (rmk m_A_swapReason) _ m_A_swapReason 0 [some (.ref a0), some (.int x1), some (.int x2), none] [] h 0 0
  refine Go.run (pc' := 1) [.aload_n 0] (ls' := [some (.ref a0), some (.int x1), some (.int x2), none]) (st' := [.ref a0]) (by decide +kernel) rfl rfl ?_
  refine Go.getR fo_A_12 k0 (by decide +kernel) ?_
  refine Go.run (pc' := 5) [.iload_n 1] (ls' := [some (.ref a0), some (.int x1), some (.int x2), none]) (st' := [.int x1, .ref (fld a0 0)]) (by decide +kernel) rfl rfl ?_
  obtain ⟨v1, e2, e⟩ := bd_inv e
  refine Go.callV (M2 := m_S_hasDealer) (a := (fld a0 0)) (as := [.int x1]) (rest := []) (v := some (.int v1)) (h1 := h) (x_S_hasDealer hf hI (kf_1_0 k0) e2) wv_A_121 (kf_1_0 k0) kc_6 (by decide +kernel) rfl rfl ⟨⟨Nat.le_of_ble_eq_true rfl, Nat.le_of_ble_eq_true rfl⟩, ⟨Nat.le_of_ble_eq_true rfl, Nat.le_of_ble_eq_true rfl⟩⟩ (Nat.le_of_ble_eq_true rfl) ?_
  show Go l D ad aC (rmk m_A_swapReason) _ m_A_swapReason 8 [some (.ref a0), some (.int x1), some (.int x2), none] [.int v1] h 0 0
  refine Go.if_eq (off := 19) (tgt := 27) (by decide +kernel) (by decide) (fun c3 => ?_) (fun c3 => ?_)
  · replace e := ite_t c3 e
    refine Go.run (pc' := 28) [.iconst (-1)] (ls' := [some (.ref a0), some (.int x1), some (.int x2), none]) (st' := [.int (-1 : Int32)]) (by decide +kernel) rfl rfl ?_
    obtain rfl := Option.some.inj e
    exact Go.iret rfl (by decide) (by decide) (by decide +kernel)
  · replace e := ite_f c3 e
    refine Go.run (pc' := 12) [.aload_n 0] (ls' := [some (.ref a0), some (.int x1), some (.int x2), none]) (st' := [.ref a0]) (by decide +kernel) rfl rfl ?_
    refine Go.getR fo_A_12 k0 (by decide +kernel) ?_
    refine Go.run (pc' := 16) [.iload_n 2] (ls' := [some (.ref a0), some (.int x1), some (.int x2), none]) (st' := [.int x2, .ref (fld a0 0)]) (by decide +kernel) rfl rfl ?_
    obtain ⟨v4, e5, e⟩ := bd_inv e
    refine Go.callV (M2 := m_S_hasDealer) (a := (fld a0 0)) (as := [.int x2]) (rest := []) (v := some (.int v4)) (h1 := h) (x_S_hasDealer hf hI (kf_1_0 k0) e5) wv_A_121 (kf_1_0 k0) kc_6 (by decide +kernel) rfl rfl ⟨⟨Nat.le_of_ble_eq_true rfl, Nat.le_of_ble_eq_true rfl⟩, ⟨Nat.le_of_ble_eq_true rfl, Nat.le_of_ble_eq_true rfl⟩⟩ (Nat.le_of_ble_eq_true rfl) ?_
    show Go l D ad aC (rmk m_A_swapReason) _ m_A_swapReason 19 [some (.ref a0), some (.int x1), some (.int x2), none] [.int v4] h 0 0
    refine Go.if_eq (off := 8) (tgt := 27) (by decide +kernel) (by decide) (fun c6 => ?_) (fun c6 => ?_)
    · replace e := ite_t c6 e
      refine Go.run (pc' := 28) [.iconst (-1)] (ls' := [some (.ref a0), some (.int x1), some (.int x2), none]) (st' := [.int (-1 : Int32)]) (by decide +kernel) rfl rfl ?_
      obtain rfl := Option.some.inj e
      exact Go.iret rfl (by decide) (by decide) (by decide +kernel)
    · replace e := ite_f c6 e
      refine Go.run (pc' := 24) [.iload_n 1, .iload_n 2] (ls' := [some (.ref a0), some (.int x1), some (.int x2), none]) (st' := [.int x2, .int x1]) (by decide +kernel) rfl rfl ?_
      refine Go.ic_ne (off := 5) (tgt := 29) (by decide +kernel) (by decide) (fun c7 => ?_) (fun c7 => ?_)
      · replace e := ite_f c7 e
        refine Go.run (pc' := 30) [.aload_n 0] (ls' := [some (.ref a0), some (.int x1), some (.int x2), none]) (st' := [.ref a0]) (by decide +kernel) rfl rfl ?_
        refine Go.getR fo_A_12 k0 (by decide +kernel) ?_
        refine Go.run (pc' := 34) [.iload_n 1] (ls' := [some (.ref a0), some (.int x1), some (.int x2), none]) (st' := [.int x1, .ref (fld a0 0)]) (by decide +kernel) rfl rfl ?_
        obtain ⟨v8, e9, e⟩ := bd_inv e
        refine Go.callV (M2 := m_S_stands) (a := (fld a0 0)) (as := [.int x1]) (rest := []) (v := some (.int v8)) (h1 := h) (x_S_stands hf hI (kf_1_0 k0) e9) wv_A_89 (kf_1_0 k0) kc_6 (by decide +kernel) rfl rfl ⟨⟨Nat.le_of_ble_eq_true rfl, Nat.le_of_ble_eq_true rfl⟩, ⟨Nat.le_of_ble_eq_true rfl, Nat.le_of_ble_eq_true rfl⟩⟩ (Nat.le_of_ble_eq_true rfl) ?_
        show Go l D ad aC (rmk m_A_swapReason) _ m_A_swapReason 37 [some (.ref a0), some (.int x1), some (.int x2), none] [.int v8] h 0 0
        refine Go.if_eq (off := 14) (tgt := 51) (by decide +kernel) (by decide) (fun c10 => ?_) (fun c10 => ?_)
        · replace e := ite_t c10 e
          refine Go.run (pc' := 52) [.iconst 1] (ls' := [some (.ref a0), some (.int x1), some (.int x2), none]) (st' := [.int (1 : Int32)]) (by decide +kernel) rfl rfl ?_
          obtain rfl := Option.some.inj e
          exact Go.iret rfl (by decide) (by decide) (by decide +kernel)
        · replace e := ite_f c10 e
          refine Go.run (pc' := 41) [.aload_n 0] (ls' := [some (.ref a0), some (.int x1), some (.int x2), none]) (st' := [.ref a0]) (by decide +kernel) rfl rfl ?_
          refine Go.getR fo_A_12 k0 (by decide +kernel) ?_
          refine Go.run (pc' := 45) [.iload_n 2] (ls' := [some (.ref a0), some (.int x1), some (.int x2), none]) (st' := [.int x2, .ref (fld a0 0)]) (by decide +kernel) rfl rfl ?_
          obtain ⟨v11, e12, e⟩ := bd_inv e
          refine Go.callV (M2 := m_S_stands) (a := (fld a0 0)) (as := [.int x2]) (rest := []) (v := some (.int v11)) (h1 := h) (x_S_stands hf hI (kf_1_0 k0) e12) wv_A_89 (kf_1_0 k0) kc_6 (by decide +kernel) rfl rfl ⟨⟨Nat.le_of_ble_eq_true rfl, Nat.le_of_ble_eq_true rfl⟩, ⟨Nat.le_of_ble_eq_true rfl, Nat.le_of_ble_eq_true rfl⟩⟩ (Nat.le_of_ble_eq_true rfl) ?_
          show Go l D ad aC (rmk m_A_swapReason) _ m_A_swapReason 48 [some (.ref a0), some (.int x1), some (.int x2), none] [.int v11] h 0 0
          refine Go.if_ne (off := 5) (tgt := 53) (by decide +kernel) (by decide) (fun c13 => ?_) (fun c13 => ?_)
          · replace e := ite_f c13 e
            refine Go.run (pc' := 54) [.aload_n 0] (ls' := [some (.ref a0), some (.int x1), some (.int x2), none]) (st' := [.ref a0]) (by decide +kernel) rfl rfl ?_
            refine Go.getR fo_A_12 k0 (by decide +kernel) ?_
            refine Go.getI fo_A_96 (kf_1_0 k0) (by decide +kernel) ?_
            refine Go.run (pc' := 61) [.aload_n 0] (ls' := [some (.ref a0), some (.int x1), some (.int x2), none]) (st' := [.ref a0, .int (h (fld a0 0) 12)]) (by decide +kernel) rfl rfl ?_
            refine Go.getR fo_A_12 k0 (by decide +kernel) ?_
            refine Go.getR fo_A_109 (kf_1_0 k0) (by decide +kernel) ?_
            refine Go.run (pc' := 68) [.iconst 5] (ls' := [some (.ref a0), some (.int x1), some (.int x2), none]) (st' := [.int (5 : Int32), .ref (fld (fld a0 0) 8), .int (h (fld a0 0) 12)]) (by decide +kernel) rfl rfl ?_
            obtain ⟨g14, e⟩ := gd_inv e
            refine Go.iald (kf_6_j 8 (kf_1_0 k0) (by decide)) (al_6_j 8 (kf_1_0 k0) (by decide) rfl) g14 (by decide +kernel) ?_
            refine Go.ic_lt (off := 5) (tgt := 74) (by decide +kernel) (by decide) (fun c15 => ?_) (fun c15 => ?_)
            · replace e := ite_t c15 e
              refine Go.run (pc' := 77) [.aload_n 0, .iload_n 1, .iload_n 2] (ls' := [some (.ref a0), some (.int x1), some (.int x2), none]) (st' := [.int x2, .int x1, .ref a0]) (by decide +kernel) rfl rfl ?_
              obtain ⟨v16, e17, e⟩ := bd_inv e
              refine Go.callV (M2 := m_A_fitsBothAway) (a := a0) (as := [.int x1, .int x2]) (rest := []) (v := some (.int v16)) (h1 := h) (x_A_fitsBothAway hf hI k0 e17) wv_A_131 k0 kc_1 (by decide +kernel) rfl rfl ⟨⟨Nat.le_of_ble_eq_true rfl, Nat.le_of_ble_eq_true rfl⟩, ⟨Nat.le_of_ble_eq_true rfl, Nat.le_of_ble_eq_true rfl⟩⟩ (Nat.le_of_ble_eq_true rfl) ?_
              show Go l D ad aC (rmk m_A_swapReason) _ m_A_swapReason 80 [some (.ref a0), some (.int x1), some (.int x2), none] [.int v16] h 0 0
              refine Go.if_ne (off := 5) (tgt := 85) (by decide +kernel) (by decide) (fun c18 => ?_) (fun c18 => ?_)
              · replace e := ite_f c18 e
                refine Go.run (pc' := 86) [.aload_n 0] (ls' := [some (.ref a0), some (.int x1), some (.int x2), none]) (st' := [.ref a0]) (by decide +kernel) rfl rfl ?_
                refine Go.getR fo_A_12 k0 (by decide +kernel) ?_
                refine Go.getR fo_A_76 (kf_1_0 k0) (by decide +kernel) ?_
                refine Go.run (pc' := 93) [.iload_n 1] (ls' := [some (.ref a0), some (.int x1), some (.int x2), none]) (st' := [.int x1, .ref (fld (fld a0 0) 5)]) (by decide +kernel) rfl rfl ?_
                obtain ⟨g19, e⟩ := gd_inv e
                refine Go.iald (kf_6_j 5 (kf_1_0 k0) (by decide)) (al_6_j 5 (kf_1_0 k0) (by decide) rfl) g19 (by decide +kernel) ?_
                refine Go.run (pc' := 95) [.aload_n 0] (ls' := [some (.ref a0), some (.int x1), some (.int x2), none]) (st' := [.ref a0, .int (h (fld (fld a0 0) 5) x1.toNatClampNeg)]) (by decide +kernel) rfl rfl ?_
                refine Go.getR fo_A_12 k0 (by decide +kernel) ?_
                refine Go.getR fo_A_76 (kf_1_0 k0) (by decide +kernel) ?_
                refine Go.run (pc' := 102) [.iload_n 2] (ls' := [some (.ref a0), some (.int x1), some (.int x2), none]) (st' := [.int x2, .ref (fld (fld a0 0) 5), .int (h (fld (fld a0 0) 5) x1.toNatClampNeg)]) (by decide +kernel) rfl rfl ?_
                obtain ⟨g20, e⟩ := gd_inv e
                refine Go.iald (kf_6_j 5 (kf_1_0 k0) (by decide)) (al_6_j 5 (kf_1_0 k0) (by decide) rfl) g20 (by decide +kernel) ?_
                refine Go.ic_ne (off := 49) (tgt := 152) (by decide +kernel) (by decide) (fun c21 => ?_) (fun c21 => ?_)
                · replace e := ite_f c21 e
                  exact x_A_swapReason_152 hf hI k0 e
                · replace e := ite_t c21 e
                  refine Go.run (pc' := 107) [.aload_n 0] (ls' := [some (.ref a0), some (.int x1), some (.int x2), none]) (st' := [.ref a0]) (by decide +kernel) rfl rfl ?_
                  refine Go.getR fo_A_12 k0 (by decide +kernel) ?_
                  refine Go.getR fo_A_79 (kf_1_0 k0) (by decide +kernel) ?_
                  refine Go.run (pc' := 114) [.iload_n 2] (ls' := [some (.ref a0), some (.int x1), some (.int x2), none]) (st' := [.int x2, .ref (fld (fld a0 0) 6)]) (by decide +kernel) rfl rfl ?_
                  obtain ⟨g22, e⟩ := gd_inv e
                  refine Go.iald (kf_6_j 6 (kf_1_0 k0) (by decide)) (al_6_j 6 (kf_1_0 k0) (by decide) rfl) g22 (by decide +kernel) ?_
                  refine Go.run (pc' := 116) [.aload_n 0] (ls' := [some (.ref a0), some (.int x1), some (.int x2), none]) (st' := [.ref a0, .int (h (fld (fld a0 0) 6) x2.toNatClampNeg)]) (by decide +kernel) rfl rfl ?_
                  refine Go.getR fo_A_12 k0 (by decide +kernel) ?_
                  refine Go.getR fo_A_70 (kf_1_0 k0) (by decide +kernel) ?_
                  refine Go.run (pc' := 123) [.iload_n 1] (ls' := [some (.ref a0), some (.int x1), some (.int x2), none]) (st' := [.int x1, .ref (fld (fld a0 0) 3), .int (h (fld (fld a0 0) 6) x2.toNatClampNeg)]) (by decide +kernel) rfl rfl ?_
                  obtain ⟨g23, e⟩ := gd_inv e
                  refine Go.iald (kf_6_j 3 (kf_1_0 k0) (by decide)) (al_6_j 3 (kf_1_0 k0) (by decide) rfl) g23 (by decide +kernel) ?_
                  refine Go.run (pc' := 125) [.aload_n 0] (ls' := [some (.ref a0), some (.int x1), some (.int x2), none]) (st' := [.ref a0, .int (h (fld (fld a0 0) 3) x1.toNatClampNeg), .int (h (fld (fld a0 0) 6) x2.toNatClampNeg)]) (by decide +kernel) rfl rfl ?_
                  refine Go.getR fo_A_12 k0 (by decide +kernel) ?_
                  refine Go.getR fo_A_79 (kf_1_0 k0) (by decide +kernel) ?_
                  refine Go.run (pc' := 132) [.iload_n 1] (ls' := [some (.ref a0), some (.int x1), some (.int x2), none]) (st' := [.int x1, .ref (fld (fld a0 0) 6), .int (h (fld (fld a0 0) 3) x1.toNatClampNeg), .int (h (fld (fld a0 0) 6) x2.toNatClampNeg)]) (by decide +kernel) rfl rfl ?_
                  obtain ⟨g24, e⟩ := gd_inv e
                  refine Go.iald (kf_6_j 6 (kf_1_0 k0) (by decide)) (al_6_j 6 (kf_1_0 k0) (by decide) rfl) g24 (by decide +kernel) ?_
                  refine Go.run (pc' := 134) [.aload_n 0] (ls' := [some (.ref a0), some (.int x1), some (.int x2), none]) (st' := [.ref a0, .int (h (fld (fld a0 0) 6) x1.toNatClampNeg), .int (h (fld (fld a0 0) 3) x1.toNatClampNeg), .int (h (fld (fld a0 0) 6) x2.toNatClampNeg)]) (by decide +kernel) rfl rfl ?_
                  refine Go.getR fo_A_12 k0 (by decide +kernel) ?_
                  refine Go.getR fo_A_70 (kf_1_0 k0) (by decide +kernel) ?_
                  refine Go.run (pc' := 141) [.iload_n 2] (ls' := [some (.ref a0), some (.int x1), some (.int x2), none]) (st' := [.int x2, .ref (fld (fld a0 0) 3), .int (h (fld (fld a0 0) 6) x1.toNatClampNeg), .int (h (fld (fld a0 0) 3) x1.toNatClampNeg), .int (h (fld (fld a0 0) 6) x2.toNatClampNeg)]) (by decide +kernel) rfl rfl ?_
                  obtain ⟨g25, e⟩ := gd_inv e
                  refine Go.iald (kf_6_j 3 (kf_1_0 k0) (by decide)) (al_6_j 3 (kf_1_0 k0) (by decide) rfl) g25 (by decide +kernel) ?_
                  obtain ⟨v26, e27, e⟩ := bd_inv e
                  refine Go.callS (M2 := m_A_overlap) (as := [.int (h (fld (fld a0 0) 6) x2.toNatClampNeg), .int (h (fld (fld a0 0) 3) x1.toNatClampNeg), .int (h (fld (fld a0 0) 6) x1.toNatClampNeg), .int (h (fld (fld a0 0) 3) x2.toNatClampNeg)]) (rest := []) (v := some (.int v26)) (h1 := h) (x_A_overlap hf hI  e27) ws_A_134 (by decide +kernel) rfl rfl ⟨⟨Nat.le_of_ble_eq_true rfl, Nat.le_of_ble_eq_true rfl⟩, ⟨Nat.le_of_ble_eq_true rfl, Nat.le_of_ble_eq_true rfl⟩⟩ (Nat.le_of_ble_eq_true rfl) ?_
                  show Go l D ad aC (rmk m_A_swapReason) _ m_A_swapReason 145 [some (.ref a0), some (.int x1), some (.int x2), none] [.int v26] h 0 0
                  refine Go.if_eq (off := 7) (tgt := 152) (by decide +kernel) (by decide) (fun c28 => ?_) (fun c28 => ?_)
                  · replace e := ite_t c28 e
                    exact x_A_swapReason_152 hf hI k0 e
                  · replace e := ite_f c28 e
                    refine Go.run (pc' := 149) [.iconst 1] (ls' := [some (.ref a0), some (.int x1), some (.int x2), none]) (st' := [.int (1 : Int32)]) (by decide +kernel) rfl rfl ?_
                    refine Go.goto (off := 4) (tgt := 153) (by decide +kernel) (by decide) ?_
                    exact x_A_swapReason_153 hf hI k0 e
              · replace e := ite_t c18 e
                refine Go.run (pc' := 84) [.iconst 3] (ls' := [some (.ref a0), some (.int x1), some (.int x2), none]) (st' := [.int (3 : Int32)]) (by decide +kernel) rfl rfl ?_
                obtain rfl := Option.some.inj e
                exact Go.iret rfl (by decide) (by decide) (by decide +kernel)
            · replace e := ite_f c15 e
              refine Go.run (pc' := 73) [.iconst 2] (ls' := [some (.ref a0), some (.int x1), some (.int x2), none]) (st' := [.int (2 : Int32)]) (by decide +kernel) rfl rfl ?_
              obtain rfl := Option.some.inj e
              exact Go.iret rfl (by decide) (by decide) (by decide +kernel)
          · replace e := ite_t c13 e
            refine Go.run (pc' := 52) [.iconst 1] (ls' := [some (.ref a0), some (.int x1), some (.int x2), none]) (st' := [.int (1 : Int32)]) (by decide +kernel) rfl rfl ?_
            obtain rfl := Option.some.inj e
            exact Go.iret rfl (by decide) (by decide) (by decide +kernel)
      · replace e := ite_t c7 e
        refine Go.run (pc' := 28) [.iconst (-1)] (ls' := [some (.ref a0), some (.int x1), some (.int x2), none]) (st' := [.int (-1 : Int32)]) (by decide +kernel) rfl rfl ?_
        obtain rfl := Option.some.inj e
        exact Go.iret rfl (by decide) (by decide) (by decide +kernel)
def f_A_exchange (h : HP) (a0 : Nat) (x1 : Int32) (x2 : Int32) : Option (Int32 × HP) :=
  (f_A_swapReason h a0 x1 x2).bind fun v1 =>
  if v1 = 0 then
    if ib x1 10 = true then
    if ib x1 10 = true then
    if ib x2 10 = true then
    if ib x1 10 = true then
    (some (hset h (fld (fld a0 0) 5) x1.toNatClampNeg (h (fld (fld a0 0) 5) x2.toNatClampNeg))).bind fun h8 =>
    if ib x2 10 = true then
    if ib x1 10 = true then
    (some (hset h8 (fld (fld a0 0) 6) x1.toNatClampNeg (h8 (fld (fld a0 0) 6) x2.toNatClampNeg))).bind fun h12 =>
    if ib x2 10 = true then
    (some (hset h12 (fld (fld a0 0) 5) x2.toNatClampNeg (h (fld (fld a0 0) 5) x1.toNatClampNeg))).bind fun h15 =>
    if ib x2 10 = true then
    (some (hset h15 (fld (fld a0 0) 6) x2.toNatClampNeg (h (fld (fld a0 0) 6) x1.toNatClampNeg))).bind fun h18 =>
    (some (hset h18 (fld a0 0) 12 ((h18 (fld a0 0) 12) + (1 : Int32)))).bind fun h20 =>
    (f_W_shareOut h20 (fld a0 1) (fld a0 0)).bind fun v22 =>
    some (v1, v22)
    else none
    else none
    else none
    else none
    else none
    else none
    else none
    else none
  else
    some (v1, h)
set_option maxHeartbeats 1000000 in
theorem x_A_exchange {l : Launch} {D : va_G} {ad : Nat → Nat} {aC : Nat → ClassId} (hf : l.flags = flags0) (hI : Inj ad) {h : HP} {a0 : Nat} {x1 : Int32} {x2 : Int32} {r : Int32 × HP} (k0 : knd a0 = 1) (e : f_A_exchange h a0 x1 x2 = some r) : CT l D ad aC m_A_exchange [.ref a0, .int x1, .int x2] h (.inl (some (.int r.1))) r.2 := by
  refine CT.ofGo (by decide +kernel) rfl (Nat.le_of_ble_eq_true rfl) ?_
  unfold f_A_exchange at e
  show Go l D ad aC (rmk m_A_exchange) _ m_A_exchange 0 [some (.ref a0), some (.int x1), some (.int x2), none, none, none] [] h 0 0
  refine Go.run (pc' := 3) [.aload_n 0, .iload_n 1, .iload_n 2] (ls' := [some (.ref a0), some (.int x1), some (.int x2), none, none, none]) (st' := [.int x2, .int x1, .ref a0]) (by decide +kernel) rfl rfl ?_
  obtain ⟨v1, e2, e⟩ := bd_inv e
  refine Go.callV (M2 := m_A_swapReason) (a := a0) (as := [.int x1, .int x2]) (rest := []) (v := some (.int v1)) (h1 := h) (x_A_swapReason hf hI k0 e2) wv_A_92 k0 kc_1 (by decide +kernel) rfl rfl ⟨⟨Nat.le_of_ble_eq_true rfl, Nat.le_of_ble_eq_true rfl⟩, ⟨Nat.le_of_ble_eq_true rfl, Nat.le_of_ble_eq_true rfl⟩⟩ (Nat.le_of_ble_eq_true rfl) ?_
  show Go l D ad aC (rmk m_A_exchange) _ m_A_exchange 6 [some (.ref a0), some (.int x1), some (.int x2), none, none, none] [.int v1] h 0 0
  refine Go.run (pc' := 8) [.istore_n 3, .iload_n 3] (ls' := [some (.ref a0), some (.int x1), some (.int x2), some (.int v1), none, none]) (st' := [.int v1]) (by decide +kernel) rfl rfl ?_
  refine Go.if_ne (off := 107) (tgt := 115) (by decide +kernel) (by decide) (fun c3 => ?_) (fun c3 => ?_)
  · replace e := ite_f c3 e
    refine Go.run (pc' := 116) [.iload_n 3] (ls' := [some (.ref a0), some (.int x1), some (.int x2), some (.int v1), none, none]) (st' := [.int v1]) (by decide +kernel) rfl rfl ?_
    obtain rfl := Option.some.inj e
    exact Go.iret rfl (by decide) (by decide) (by decide +kernel)
  · replace e := ite_t c3 e
    refine Go.run (pc' := 12) [.aload_n 0] (ls' := [some (.ref a0), some (.int x1), some (.int x2), some (.int v1), none, none]) (st' := [.ref a0]) (by decide +kernel) rfl rfl ?_
    refine Go.getR fo_A_12 k0 (by decide +kernel) ?_
    refine Go.getR fo_A_76 (kf_1_0 k0) (by decide +kernel) ?_
    refine Go.run (pc' := 19) [.iload_n 1] (ls' := [some (.ref a0), some (.int x1), some (.int x2), some (.int v1), none, none]) (st' := [.int x1, .ref (fld (fld a0 0) 5)]) (by decide +kernel) rfl rfl ?_
    obtain ⟨g4, e⟩ := gd_inv e
    refine Go.iald (kf_6_j 5 (kf_1_0 k0) (by decide)) (al_6_j 5 (kf_1_0 k0) (by decide) rfl) g4 (by decide +kernel) ?_
    refine Go.run (pc' := 23) [.istore 4, .aload_n 0] (ls' := [some (.ref a0), some (.int x1), some (.int x2), some (.int v1), some (.int (h (fld (fld a0 0) 5) x1.toNatClampNeg)), none]) (st' := [.ref a0]) (by decide +kernel) rfl rfl ?_
    refine Go.getR fo_A_12 k0 (by decide +kernel) ?_
    refine Go.getR fo_A_79 (kf_1_0 k0) (by decide +kernel) ?_
    refine Go.run (pc' := 30) [.iload_n 1] (ls' := [some (.ref a0), some (.int x1), some (.int x2), some (.int v1), some (.int (h (fld (fld a0 0) 5) x1.toNatClampNeg)), none]) (st' := [.int x1, .ref (fld (fld a0 0) 6)]) (by decide +kernel) rfl rfl ?_
    obtain ⟨g5, e⟩ := gd_inv e
    refine Go.iald (kf_6_j 6 (kf_1_0 k0) (by decide)) (al_6_j 6 (kf_1_0 k0) (by decide) rfl) g5 (by decide +kernel) ?_
    refine Go.run (pc' := 34) [.istore 5, .aload_n 0] (ls' := [some (.ref a0), some (.int x1), some (.int x2), some (.int v1), some (.int (h (fld (fld a0 0) 5) x1.toNatClampNeg)), some (.int (h (fld (fld a0 0) 6) x1.toNatClampNeg))]) (st' := [.ref a0]) (by decide +kernel) rfl rfl ?_
    refine Go.getR fo_A_12 k0 (by decide +kernel) ?_
    refine Go.getR fo_A_76 (kf_1_0 k0) (by decide +kernel) ?_
    refine Go.run (pc' := 42) [.iload_n 1, .aload_n 0] (ls' := [some (.ref a0), some (.int x1), some (.int x2), some (.int v1), some (.int (h (fld (fld a0 0) 5) x1.toNatClampNeg)), some (.int (h (fld (fld a0 0) 6) x1.toNatClampNeg))]) (st' := [.ref a0, .int x1, .ref (fld (fld a0 0) 5)]) (by decide +kernel) rfl rfl ?_
    refine Go.getR fo_A_12 k0 (by decide +kernel) ?_
    refine Go.getR fo_A_76 (kf_1_0 k0) (by decide +kernel) ?_
    refine Go.run (pc' := 49) [.iload_n 2] (ls' := [some (.ref a0), some (.int x1), some (.int x2), some (.int v1), some (.int (h (fld (fld a0 0) 5) x1.toNatClampNeg)), some (.int (h (fld (fld a0 0) 6) x1.toNatClampNeg))]) (st' := [.int x2, .ref (fld (fld a0 0) 5), .int x1, .ref (fld (fld a0 0) 5)]) (by decide +kernel) rfl rfl ?_
    obtain ⟨g6, e⟩ := gd_inv e
    refine Go.iald (kf_6_j 5 (kf_1_0 k0) (by decide)) (al_6_j 5 (kf_1_0 k0) (by decide) rfl) g6 (by decide +kernel) ?_
    obtain ⟨g7, e⟩ := gd_inv e
    refine Go.iast hI (kf_6_j 5 (kf_1_0 k0) (by decide)) (al_6_j 5 (kf_1_0 k0) (by decide) rfl) g7 (by decide +kernel) ?_
    obtain ⟨h8, q9, e⟩ := bd_inv e
    refine Go.eqH (Option.some.inj q9) ?_
    refine Go.run (pc' := 52) [.aload_n 0] (ls' := [some (.ref a0), some (.int x1), some (.int x2), some (.int v1), some (.int (h (fld (fld a0 0) 5) x1.toNatClampNeg)), some (.int (h (fld (fld a0 0) 6) x1.toNatClampNeg))]) (st' := [.ref a0]) (by decide +kernel) rfl rfl ?_
    refine Go.getR fo_A_12 k0 (by decide +kernel) ?_
    refine Go.getR fo_A_79 (kf_1_0 k0) (by decide +kernel) ?_
    refine Go.run (pc' := 60) [.iload_n 1, .aload_n 0] (ls' := [some (.ref a0), some (.int x1), some (.int x2), some (.int v1), some (.int (h (fld (fld a0 0) 5) x1.toNatClampNeg)), some (.int (h (fld (fld a0 0) 6) x1.toNatClampNeg))]) (st' := [.ref a0, .int x1, .ref (fld (fld a0 0) 6)]) (by decide +kernel) rfl rfl ?_
    refine Go.getR fo_A_12 k0 (by decide +kernel) ?_
    refine Go.getR fo_A_79 (kf_1_0 k0) (by decide +kernel) ?_
    refine Go.run (pc' := 67) [.iload_n 2] (ls' := [some (.ref a0), some (.int x1), some (.int x2), some (.int v1), some (.int (h (fld (fld a0 0) 5) x1.toNatClampNeg)), some (.int (h (fld (fld a0 0) 6) x1.toNatClampNeg))]) (st' := [.int x2, .ref (fld (fld a0 0) 6), .int x1, .ref (fld (fld a0 0) 6)]) (by decide +kernel) rfl rfl ?_
    obtain ⟨g10, e⟩ := gd_inv e
    refine Go.iald (kf_6_j 6 (kf_1_0 k0) (by decide)) (al_6_j 6 (kf_1_0 k0) (by decide) rfl) g10 (by decide +kernel) ?_
    obtain ⟨g11, e⟩ := gd_inv e
    refine Go.iast hI (kf_6_j 6 (kf_1_0 k0) (by decide)) (al_6_j 6 (kf_1_0 k0) (by decide) rfl) g11 (by decide +kernel) ?_
    obtain ⟨h12, q13, e⟩ := bd_inv e
    refine Go.eqH (Option.some.inj q13) ?_
    refine Go.run (pc' := 70) [.aload_n 0] (ls' := [some (.ref a0), some (.int x1), some (.int x2), some (.int v1), some (.int (h (fld (fld a0 0) 5) x1.toNatClampNeg)), some (.int (h (fld (fld a0 0) 6) x1.toNatClampNeg))]) (st' := [.ref a0]) (by decide +kernel) rfl rfl ?_
    refine Go.getR fo_A_12 k0 (by decide +kernel) ?_
    refine Go.getR fo_A_76 (kf_1_0 k0) (by decide +kernel) ?_
    refine Go.run (pc' := 79) [.iload_n 2, .iload 4] (ls' := [some (.ref a0), some (.int x1), some (.int x2), some (.int v1), some (.int (h (fld (fld a0 0) 5) x1.toNatClampNeg)), some (.int (h (fld (fld a0 0) 6) x1.toNatClampNeg))]) (st' := [.int (h (fld (fld a0 0) 5) x1.toNatClampNeg), .int x2, .ref (fld (fld a0 0) 5)]) (by decide +kernel) rfl rfl ?_
    obtain ⟨g14, e⟩ := gd_inv e
    refine Go.iast hI (kf_6_j 5 (kf_1_0 k0) (by decide)) (al_6_j 5 (kf_1_0 k0) (by decide) rfl) g14 (by decide +kernel) ?_
    obtain ⟨h15, q16, e⟩ := bd_inv e
    refine Go.eqH (Option.some.inj q16) ?_
    refine Go.run (pc' := 81) [.aload_n 0] (ls' := [some (.ref a0), some (.int x1), some (.int x2), some (.int v1), some (.int (h (fld (fld a0 0) 5) x1.toNatClampNeg)), some (.int (h (fld (fld a0 0) 6) x1.toNatClampNeg))]) (st' := [.ref a0]) (by decide +kernel) rfl rfl ?_
    refine Go.getR fo_A_12 k0 (by decide +kernel) ?_
    refine Go.getR fo_A_79 (kf_1_0 k0) (by decide +kernel) ?_
    refine Go.run (pc' := 90) [.iload_n 2, .iload 5] (ls' := [some (.ref a0), some (.int x1), some (.int x2), some (.int v1), some (.int (h (fld (fld a0 0) 5) x1.toNatClampNeg)), some (.int (h (fld (fld a0 0) 6) x1.toNatClampNeg))]) (st' := [.int (h (fld (fld a0 0) 6) x1.toNatClampNeg), .int x2, .ref (fld (fld a0 0) 6)]) (by decide +kernel) rfl rfl ?_
    obtain ⟨g17, e⟩ := gd_inv e
    refine Go.iast hI (kf_6_j 6 (kf_1_0 k0) (by decide)) (al_6_j 6 (kf_1_0 k0) (by decide) rfl) g17 (by decide +kernel) ?_
    obtain ⟨h18, q19, e⟩ := bd_inv e
    refine Go.eqH (Option.some.inj q19) ?_
    refine Go.run (pc' := 92) [.aload_n 0] (ls' := [some (.ref a0), some (.int x1), some (.int x2), some (.int v1), some (.int (h (fld (fld a0 0) 5) x1.toNatClampNeg)), some (.int (h (fld (fld a0 0) 6) x1.toNatClampNeg))]) (st' := [.ref a0]) (by decide +kernel) rfl rfl ?_
    refine Go.getR fo_A_12 k0 (by decide +kernel) ?_
    refine Go.run (pc' := 96) [.dup] (ls' := [some (.ref a0), some (.int x1), some (.int x2), some (.int v1), some (.int (h (fld (fld a0 0) 5) x1.toNatClampNeg)), some (.int (h (fld (fld a0 0) 6) x1.toNatClampNeg))]) (st' := [.ref (fld a0 0), .ref (fld a0 0)]) (by decide +kernel) rfl rfl ?_
    refine Go.getI fo_A_96 (kf_1_0 k0) (by decide +kernel) ?_
    refine Go.run (pc' := 101) [.iconst 1, .iadd] (ls' := [some (.ref a0), some (.int x1), some (.int x2), some (.int v1), some (.int (h (fld (fld a0 0) 5) x1.toNatClampNeg)), some (.int (h (fld (fld a0 0) 6) x1.toNatClampNeg))]) (st' := [.int ((h18 (fld a0 0) 12) + (1 : Int32)), .ref (fld a0 0)]) (by decide +kernel) rfl rfl ?_
    refine Go.put hI po_A_96 (kf_1_0 k0) (nar_i _) (fit_i _) (by decide +kernel) ?_
    obtain ⟨h20, q21, e⟩ := bd_inv e
    refine Go.eqH (Option.some.inj q21) ?_
    refine Go.run (pc' := 105) [.aload_n 0] (ls' := [some (.ref a0), some (.int x1), some (.int x2), some (.int v1), some (.int (h (fld (fld a0 0) 5) x1.toNatClampNeg)), some (.int (h (fld (fld a0 0) 6) x1.toNatClampNeg))]) (st' := [.ref a0]) (by decide +kernel) rfl rfl ?_
    refine Go.getR fo_A_21 k0 (by decide +kernel) ?_
    refine Go.run (pc' := 109) [.aload_n 0] (ls' := [some (.ref a0), some (.int x1), some (.int x2), some (.int v1), some (.int (h (fld (fld a0 0) 5) x1.toNatClampNeg)), some (.int (h (fld (fld a0 0) 6) x1.toNatClampNeg))]) (st' := [.ref a0, .ref (fld a0 1)]) (by decide +kernel) rfl rfl ?_
    refine Go.getR fo_A_12 k0 (by decide +kernel) ?_
    obtain ⟨v22, e23, e⟩ := bd_inv e
    refine Go.callV (M2 := m_W_shareOut) (a := (fld a0 1)) (as := [.ref (fld a0 0)]) (rest := []) (v := none) (h1 := v22) (x_W_shareOut hf hI (kf_1_1 k0) (kf_1_0 k0) e23) wv_A_36 (kf_1_1 k0) kc_4 (by decide +kernel) rfl rfl ⟨⟨Nat.le_of_ble_eq_true rfl, Nat.le_of_ble_eq_true rfl⟩, ⟨Nat.le_of_ble_eq_true rfl, Nat.le_of_ble_eq_true rfl⟩⟩ (Nat.le_of_ble_eq_true rfl) ?_
    show Go l D ad aC (rmk m_A_exchange) _ m_A_exchange 115 [some (.ref a0), some (.int x1), some (.int x2), some (.int v1), some (.int (h (fld (fld a0 0) 5) x1.toNatClampNeg)), some (.int (h (fld (fld a0 0) 6) x1.toNatClampNeg))] [] v22 0 0
    refine Go.run (pc' := 116) [.iload_n 3] (ls' := [some (.ref a0), some (.int x1), some (.int x2), some (.int v1), some (.int (h (fld (fld a0 0) 5) x1.toNatClampNeg)), some (.int (h (fld (fld a0 0) 6) x1.toNatClampNeg))]) (st' := [.int v1]) (by decide +kernel) rfl rfl ?_
    obtain rfl := Option.some.inj e
    exact Go.iret rfl (by decide) (by decide) (by decide +kernel)
def f_A_endsOf_30 (h : HP)  (a0 : Nat) (x1 : Int32) (s0 : Int32) : Option (Int32) :=
  if ib x1 10 = true then
  if ib x1 10 = true then
  if ib x1 10 = true then
  (f_S_lengthOf h (fld a0 0) (h (fld (fld a0 0) 5) x1.toNatClampNeg)).bind fun v4 =>
  if ((h (fld (fld a0 0) 6) x1.toNatClampNeg) + (h (fld (fld a0 0) 3) x1.toNatClampNeg)) = v4 then
    some (s0 + (1 : Int32))
  else
    some s0
  else none
  else none
  else none
set_option maxHeartbeats 1000000 in
theorem x_A_endsOf_30 {l : Launch} {D : va_G} {ad : Nat → Nat} {aC : Nat → ClassId} (hf : l.flags = flags0) (hI : Inj ad) {h : HP} {a0 : Nat} {x1 : Int32} {s0 : Int32} {r : Int32} (k0 : knd a0 = 1) (e : f_A_endsOf_30 h a0 x1 s0 = some r) : Go l D ad aC (rmk m_A_endsOf) (QM D ad aC m_A_endsOf (.inl (some (.int r))) h) m_A_endsOf 30 [some (.ref a0), some (.int x1), none, none] [.int s0] h 0 0 := by
  unfold f_A_endsOf_30 at e
  refine Go.run (pc' := 32) [.istore_n 2, .aload_n 0] (ls' := [some (.ref a0), some (.int x1), some (.int s0), none]) (st' := [.ref a0]) (by decide +kernel) rfl rfl ?_
  refine Go.getR fo_A_12 k0 (by decide +kernel) ?_
  refine Go.getR fo_A_79 (kf_1_0 k0) (by decide +kernel) ?_
  refine Go.run (pc' := 39) [.iload_n 1] (ls' := [some (.ref a0), some (.int x1), some (.int s0), none]) (st' := [.int x1, .ref (fld (fld a0 0) 6)]) (by decide +kernel) rfl rfl ?_
  obtain ⟨g1, e⟩ := gd_inv e
  refine Go.iald (kf_6_j 6 (kf_1_0 k0) (by decide)) (al_6_j 6 (kf_1_0 k0) (by decide) rfl) g1 (by decide +kernel) ?_
  refine Go.run (pc' := 41) [.aload_n 0] (ls' := [some (.ref a0), some (.int x1), some (.int s0), none]) (st' := [.ref a0, .int (h (fld (fld a0 0) 6) x1.toNatClampNeg)]) (by decide +kernel) rfl rfl ?_
  refine Go.getR fo_A_12 k0 (by decide +kernel) ?_
  refine Go.getR fo_A_70 (kf_1_0 k0) (by decide +kernel) ?_
  refine Go.run (pc' := 48) [.iload_n 1] (ls' := [some (.ref a0), some (.int x1), some (.int s0), none]) (st' := [.int x1, .ref (fld (fld a0 0) 3), .int (h (fld (fld a0 0) 6) x1.toNatClampNeg)]) (by decide +kernel) rfl rfl ?_
  obtain ⟨g2, e⟩ := gd_inv e
  refine Go.iald (kf_6_j 3 (kf_1_0 k0) (by decide)) (al_6_j 3 (kf_1_0 k0) (by decide) rfl) g2 (by decide +kernel) ?_
  refine Go.run (pc' := 53) [.iadd, .istore_n 3, .iload_n 3, .aload_n 0] (ls' := [some (.ref a0), some (.int x1), some (.int s0), some (.int ((h (fld (fld a0 0) 6) x1.toNatClampNeg) + (h (fld (fld a0 0) 3) x1.toNatClampNeg)))]) (st' := [.ref a0, .int ((h (fld (fld a0 0) 6) x1.toNatClampNeg) + (h (fld (fld a0 0) 3) x1.toNatClampNeg))]) (by decide +kernel) rfl rfl ?_
  refine Go.getR fo_A_12 k0 (by decide +kernel) ?_
  refine Go.run (pc' := 57) [.aload_n 0] (ls' := [some (.ref a0), some (.int x1), some (.int s0), some (.int ((h (fld (fld a0 0) 6) x1.toNatClampNeg) + (h (fld (fld a0 0) 3) x1.toNatClampNeg)))]) (st' := [.ref a0, .ref (fld a0 0), .int ((h (fld (fld a0 0) 6) x1.toNatClampNeg) + (h (fld (fld a0 0) 3) x1.toNatClampNeg))]) (by decide +kernel) rfl rfl ?_
  refine Go.getR fo_A_12 k0 (by decide +kernel) ?_
  refine Go.getR fo_A_76 (kf_1_0 k0) (by decide +kernel) ?_
  refine Go.run (pc' := 64) [.iload_n 1] (ls' := [some (.ref a0), some (.int x1), some (.int s0), some (.int ((h (fld (fld a0 0) 6) x1.toNatClampNeg) + (h (fld (fld a0 0) 3) x1.toNatClampNeg)))]) (st' := [.int x1, .ref (fld (fld a0 0) 5), .ref (fld a0 0), .int ((h (fld (fld a0 0) 6) x1.toNatClampNeg) + (h (fld (fld a0 0) 3) x1.toNatClampNeg))]) (by decide +kernel) rfl rfl ?_
  obtain ⟨g3, e⟩ := gd_inv e
  refine Go.iald (kf_6_j 5 (kf_1_0 k0) (by decide)) (al_6_j 5 (kf_1_0 k0) (by decide) rfl) g3 (by decide +kernel) ?_
  obtain ⟨v4, e5, e⟩ := bd_inv e
  refine Go.callV (M2 := m_S_lengthOf) (a := (fld a0 0)) (as := [.int (h (fld (fld a0 0) 5) x1.toNatClampNeg)]) (rest := [.int ((h (fld (fld a0 0) 6) x1.toNatClampNeg) + (h (fld (fld a0 0) 3) x1.toNatClampNeg))]) (v := some (.int v4)) (h1 := h) (x_S_lengthOf hf hI (kf_1_0 k0) e5) wv_A_124 (kf_1_0 k0) kc_6 (by decide +kernel) rfl rfl ⟨⟨Nat.le_of_ble_eq_true rfl, Nat.le_of_ble_eq_true rfl⟩, ⟨Nat.le_of_ble_eq_true rfl, Nat.le_of_ble_eq_true rfl⟩⟩ (Nat.le_of_ble_eq_true rfl) ?_
  show Go l D ad aC (rmk m_A_endsOf) _ m_A_endsOf 68 [some (.ref a0), some (.int x1), some (.int s0), some (.int ((h (fld (fld a0 0) 6) x1.toNatClampNeg) + (h (fld (fld a0 0) 3) x1.toNatClampNeg)))] [.int v4, .int ((h (fld (fld a0 0) 6) x1.toNatClampNeg) + (h (fld (fld a0 0) 3) x1.toNatClampNeg))] h 0 0
  refine Go.ic_ne (off := 9) (tgt := 77) (by decide +kernel) (by decide) (fun c6 => ?_) (fun c6 => ?_)
  · replace e := ite_f c6 e
    refine Go.run (pc' := 78) [.iload_n 2] (ls' := [some (.ref a0), some (.int x1), some (.int s0), some (.int ((h (fld (fld a0 0) 6) x1.toNatClampNeg) + (h (fld (fld a0 0) 3) x1.toNatClampNeg)))]) (st' := [.int s0]) (by decide +kernel) rfl rfl ?_
    obtain rfl := Option.some.inj e
    exact Go.iret rfl (by decide) (by decide) (by decide +kernel)
  · replace e := ite_t c6 e
    refine Go.run (pc' := 74) [.iload_n 2, .iconst 1, .iadd] (ls' := [some (.ref a0), some (.int x1), some (.int s0), some (.int ((h (fld (fld a0 0) 6) x1.toNatClampNeg) + (h (fld (fld a0 0) 3) x1.toNatClampNeg)))]) (st' := [.int (s0 + (1 : Int32))]) (by decide +kernel) rfl rfl ?_
    refine Go.goto (off := 4) (tgt := 78) (by decide +kernel) (by decide) ?_
    obtain rfl := Option.some.inj e
    exact Go.iret rfl (by decide) (by decide) (by decide +kernel)
def f_A_endsOf (h : HP) (a0 : Nat) (x1 : Int32) : Option (Int32) :=
  (f_S_stands h (fld a0 0) x1).bind fun v1 =>
  if v1 = 0 then
    some (0 : Int32)
  else
    if ib x1 10 = true then
    if (h (fld (fld a0 0) 6) x1.toNatClampNeg) = 0 then
      f_A_endsOf_30 h a0 x1 (1 : Int32)
    else
      f_A_endsOf_30 h a0 x1 (0 : Int32)
    else none
set_option maxHeartbeats 1000000 in
theorem x_A_endsOf {l : Launch} {D : va_G} {ad : Nat → Nat} {aC : Nat → ClassId} (hf : l.flags = flags0) (hI : Inj ad) {h : HP} {a0 : Nat} {x1 : Int32} {r : Int32} (k0 : knd a0 = 1) (e : f_A_endsOf h a0 x1 = some r) : CT l D ad aC m_A_endsOf [.ref a0, .int x1] h (.inl (some (.int r))) h := by
  refine CT.ofGo (by decide +kernel) rfl (Nat.le_of_ble_eq_true rfl) ?_
  unfold f_A_endsOf at e
  show Go l D ad aC (rmk m_A_endsOf) _ m_A_endsOf 0 [some (.ref a0), some (.int x1), none, none] [] h 0 0
  refine Go.run (pc' := 1) [.aload_n 0] (ls' := [some (.ref a0), some (.int x1), none, none]) (st' := [.ref a0]) (by decide +kernel) rfl rfl ?_
  refine Go.getR fo_A_12 k0 (by decide +kernel) ?_
  refine Go.run (pc' := 5) [.iload_n 1] (ls' := [some (.ref a0), some (.int x1), none, none]) (st' := [.int x1, .ref (fld a0 0)]) (by decide +kernel) rfl rfl ?_
  obtain ⟨v1, e2, e⟩ := bd_inv e
  refine Go.callV (M2 := m_S_stands) (a := (fld a0 0)) (as := [.int x1]) (rest := []) (v := some (.int v1)) (h1 := h) (x_S_stands hf hI (kf_1_0 k0) e2) wv_A_89 (kf_1_0 k0) kc_6 (by decide +kernel) rfl rfl ⟨⟨Nat.le_of_ble_eq_true rfl, Nat.le_of_ble_eq_true rfl⟩, ⟨Nat.le_of_ble_eq_true rfl, Nat.le_of_ble_eq_true rfl⟩⟩ (Nat.le_of_ble_eq_true rfl) ?_
  show Go l D ad aC (rmk m_A_endsOf) _ m_A_endsOf 8 [some (.ref a0), some (.int x1), none, none] [.int v1] h 0 0
  refine Go.if_ne (off := 5) (tgt := 13) (by decide +kernel) (by decide) (fun c3 => ?_) (fun c3 => ?_)
  · replace e := ite_f c3 e
    refine Go.run (pc' := 14) [.aload_n 0] (ls' := [some (.ref a0), some (.int x1), none, none]) (st' := [.ref a0]) (by decide +kernel) rfl rfl ?_
    refine Go.getR fo_A_12 k0 (by decide +kernel) ?_
    refine Go.getR fo_A_79 (kf_1_0 k0) (by decide +kernel) ?_
    refine Go.run (pc' := 21) [.iload_n 1] (ls' := [some (.ref a0), some (.int x1), none, none]) (st' := [.int x1, .ref (fld (fld a0 0) 6)]) (by decide +kernel) rfl rfl ?_
    obtain ⟨g4, e⟩ := gd_inv e
    refine Go.iald (kf_6_j 6 (kf_1_0 k0) (by decide)) (al_6_j 6 (kf_1_0 k0) (by decide) rfl) g4 (by decide +kernel) ?_
    refine Go.if_ne (off := 7) (tgt := 29) (by decide +kernel) (by decide) (fun c5 => ?_) (fun c5 => ?_)
    · replace e := ite_f c5 e
      refine Go.run (pc' := 30) [.iconst 0] (ls' := [some (.ref a0), some (.int x1), none, none]) (st' := [.int (0 : Int32)]) (by decide +kernel) rfl rfl ?_
      exact x_A_endsOf_30 hf hI k0 e
    · replace e := ite_t c5 e
      refine Go.run (pc' := 26) [.iconst 1] (ls' := [some (.ref a0), some (.int x1), none, none]) (st' := [.int (1 : Int32)]) (by decide +kernel) rfl rfl ?_
      refine Go.goto (off := 4) (tgt := 30) (by decide +kernel) (by decide) ?_
      exact x_A_endsOf_30 hf hI k0 e
  · replace e := ite_t c3 e
    refine Go.run (pc' := 12) [.iconst 0] (ls' := [some (.ref a0), some (.int x1), none, none]) (st' := [.int (0 : Int32)]) (by decide +kernel) rfl rfl ?_
    obtain rfl := Option.some.inj e
    exact Go.iret rfl (by decide) (by decide) (by decide +kernel)
def f_A_areNeighbours_107 (h : HP)   : Option (Int32) :=
  some (1 : Int32)
set_option maxHeartbeats 1000000 in
theorem x_A_areNeighbours_107 {l : Launch} {D : va_G} {ad : Nat → Nat} {aC : Nat → ClassId} (hf : l.flags = flags0) (hI : Inj ad) {h : HP}  {r : Int32}  (e : f_A_areNeighbours_107 h  = some r) : Go l D ad aC (rmk m_A_areNeighbours) (QM D ad aC m_A_areNeighbours (.inl (some (.int r))) h) m_A_areNeighbours 107 [none, none, none] [] h 0 0 := by
  unfold f_A_areNeighbours_107 at e
  refine Go.run (pc' := 108) [.iconst 1] (ls' := [none, none, none]) (st' := [.int (1 : Int32)]) (by decide +kernel) rfl rfl ?_
  refine Go.goto (off := 4) (tgt := 112) (by decide +kernel) (by decide) ?_
  obtain rfl := Option.some.inj e
  exact Go.zret rfl nar_z1 (by decide) (by decide) (by decide +kernel)
def f_A_areNeighbours (h : HP) (a0 : Nat) (x1 : Int32) (x2 : Int32) : Option (Int32) :=
  (f_S_stands h (fld a0 0) x1).bind fun v1 =>
  if v1 = 0 then
    some (0 : Int32)
  else
    (f_S_stands h (fld a0 0) x2).bind fun v4 =>
    if v4 = 0 then
      some (0 : Int32)
    else
      if ib x1 10 = true then
      if ib x2 10 = true then
      if (h (fld (fld a0 0) 5) x1.toNatClampNeg) = (h (fld (fld a0 0) 5) x2.toNatClampNeg) then
        if ib x1 10 = true then
        if ib x1 10 = true then
        if ib x2 10 = true then
        if ((h (fld (fld a0 0) 6) x1.toNatClampNeg) + (h (fld (fld a0 0) 3) x1.toNatClampNeg)) = (h (fld (fld a0 0) 6) x2.toNatClampNeg) then
          f_A_areNeighbours_107 h 
        else
          if ib x2 10 = true then
          if ib x2 10 = true then
          if ib x1 10 = true then
          if ((h (fld (fld a0 0) 6) x2.toNatClampNeg) + (h (fld (fld a0 0) 3) x2.toNatClampNeg)) = (h (fld (fld a0 0) 6) x1.toNatClampNeg) then
            f_A_areNeighbours_107 h 
          else
            some (0 : Int32)
          else none
          else none
          else none
        else none
        else none
        else none
      else
        some (0 : Int32)
      else none
      else none
set_option maxHeartbeats 1000000 in
theorem x_A_areNeighbours {l : Launch} {D : va_G} {ad : Nat → Nat} {aC : Nat → ClassId} (hf : l.flags = flags0) (hI : Inj ad) {h : HP} {a0 : Nat} {x1 : Int32} {x2 : Int32} {r : Int32} (k0 : knd a0 = 1) (e : f_A_areNeighbours h a0 x1 x2 = some r) : CT l D ad aC m_A_areNeighbours [.ref a0, .int x1, .int x2] h (.inl (some (.int r))) h := by
  refine CT.ofGo (by decide +kernel) rfl (Nat.le_of_ble_eq_true rfl) ?_
  unfold f_A_areNeighbours at e
  show Go l D ad aC (rmk m_A_areNeighbours) _ m_A_areNeighbours 0 [some (.ref a0), some (.int x1), some (.int x2)] [] h 0 0
  refine Go.run (pc' := 1) [.aload_n 0] (ls' := [some (.ref a0), some (.int x1), some (.int x2)]) (st' := [.ref a0]) (by decide +kernel) rfl rfl ?_
  refine Go.getR fo_A_12 k0 (by decide +kernel) ?_
  refine Go.run (pc' := 5) [.iload_n 1] (ls' := [some (.ref a0), some (.int x1), some (.int x2)]) (st' := [.int x1, .ref (fld a0 0)]) (by decide +kernel) rfl rfl ?_
  obtain ⟨v1, e2, e⟩ := bd_inv e
  refine Go.callV (M2 := m_S_stands) (a := (fld a0 0)) (as := [.int x1]) (rest := []) (v := some (.int v1)) (h1 := h) (x_S_stands hf hI (kf_1_0 k0) e2) wv_A_89 (kf_1_0 k0) kc_6 (by decide +kernel) rfl rfl ⟨⟨Nat.le_of_ble_eq_true rfl, Nat.le_of_ble_eq_true rfl⟩, ⟨Nat.le_of_ble_eq_true rfl, Nat.le_of_ble_eq_true rfl⟩⟩ (Nat.le_of_ble_eq_true rfl) ?_
  show Go l D ad aC (rmk m_A_areNeighbours) _ m_A_areNeighbours 8 [some (.ref a0), some (.int x1), some (.int x2)] [.int v1] h 0 0
  refine Go.if_eq (off := 35) (tgt := 43) (by decide +kernel) (by decide) (fun c3 => ?_) (fun c3 => ?_)
  · replace e := ite_t c3 e
    refine Go.run (pc' := 44) [.iconst 0] (ls' := [some (.ref a0), some (.int x1), some (.int x2)]) (st' := [.int (0 : Int32)]) (by decide +kernel) rfl rfl ?_
    obtain rfl := Option.some.inj e
    exact Go.zret rfl nar_z0 (by decide) (by decide) (by decide +kernel)
  · replace e := ite_f c3 e
    refine Go.run (pc' := 12) [.aload_n 0] (ls' := [some (.ref a0), some (.int x1), some (.int x2)]) (st' := [.ref a0]) (by decide +kernel) rfl rfl ?_
    refine Go.getR fo_A_12 k0 (by decide +kernel) ?_
    refine Go.run (pc' := 16) [.iload_n 2] (ls' := [some (.ref a0), some (.int x1), some (.int x2)]) (st' := [.int x2, .ref (fld a0 0)]) (by decide +kernel) rfl rfl ?_
    obtain ⟨v4, e5, e⟩ := bd_inv e
    refine Go.callV (M2 := m_S_stands) (a := (fld a0 0)) (as := [.int x2]) (rest := []) (v := some (.int v4)) (h1 := h) (x_S_stands hf hI (kf_1_0 k0) e5) wv_A_89 (kf_1_0 k0) kc_6 (by decide +kernel) rfl rfl ⟨⟨Nat.le_of_ble_eq_true rfl, Nat.le_of_ble_eq_true rfl⟩, ⟨Nat.le_of_ble_eq_true rfl, Nat.le_of_ble_eq_true rfl⟩⟩ (Nat.le_of_ble_eq_true rfl) ?_
    show Go l D ad aC (rmk m_A_areNeighbours) _ m_A_areNeighbours 19 [some (.ref a0), some (.int x1), some (.int x2)] [.int v4] h 0 0
    refine Go.if_eq (off := 24) (tgt := 43) (by decide +kernel) (by decide) (fun c6 => ?_) (fun c6 => ?_)
    · replace e := ite_t c6 e
      refine Go.run (pc' := 44) [.iconst 0] (ls' := [some (.ref a0), some (.int x1), some (.int x2)]) (st' := [.int (0 : Int32)]) (by decide +kernel) rfl rfl ?_
      obtain rfl := Option.some.inj e
      exact Go.zret rfl nar_z0 (by decide) (by decide) (by decide +kernel)
    · replace e := ite_f c6 e
      refine Go.run (pc' := 23) [.aload_n 0] (ls' := [some (.ref a0), some (.int x1), some (.int x2)]) (st' := [.ref a0]) (by decide +kernel) rfl rfl ?_
      refine Go.getR fo_A_12 k0 (by decide +kernel) ?_
      refine Go.getR fo_A_76 (kf_1_0 k0) (by decide +kernel) ?_
      refine Go.run (pc' := 30) [.iload_n 1] (ls' := [some (.ref a0), some (.int x1), some (.int x2)]) (st' := [.int x1, .ref (fld (fld a0 0) 5)]) (by decide +kernel) rfl rfl ?_
      obtain ⟨g7, e⟩ := gd_inv e
      refine Go.iald (kf_6_j 5 (kf_1_0 k0) (by decide)) (al_6_j 5 (kf_1_0 k0) (by decide) rfl) g7 (by decide +kernel) ?_
      refine Go.run (pc' := 32) [.aload_n 0] (ls' := [some (.ref a0), some (.int x1), some (.int x2)]) (st' := [.ref a0, .int (h (fld (fld a0 0) 5) x1.toNatClampNeg)]) (by decide +kernel) rfl rfl ?_
      refine Go.getR fo_A_12 k0 (by decide +kernel) ?_
      refine Go.getR fo_A_76 (kf_1_0 k0) (by decide +kernel) ?_
      refine Go.run (pc' := 39) [.iload_n 2] (ls' := [some (.ref a0), some (.int x1), some (.int x2)]) (st' := [.int x2, .ref (fld (fld a0 0) 5), .int (h (fld (fld a0 0) 5) x1.toNatClampNeg)]) (by decide +kernel) rfl rfl ?_
      obtain ⟨g8, e⟩ := gd_inv e
      refine Go.iald (kf_6_j 5 (kf_1_0 k0) (by decide)) (al_6_j 5 (kf_1_0 k0) (by decide) rfl) g8 (by decide +kernel) ?_
      refine Go.ic_eq (off := 5) (tgt := 45) (by decide +kernel) (by decide) (fun c9 => ?_) (fun c9 => ?_)
      · replace e := ite_t c9 e
        refine Go.run (pc' := 46) [.aload_n 0] (ls' := [some (.ref a0), some (.int x1), some (.int x2)]) (st' := [.ref a0]) (by decide +kernel) rfl rfl ?_
        refine Go.getR fo_A_12 k0 (by decide +kernel) ?_
        refine Go.getR fo_A_79 (kf_1_0 k0) (by decide +kernel) ?_
        refine Go.run (pc' := 53) [.iload_n 1] (ls' := [some (.ref a0), some (.int x1), some (.int x2)]) (st' := [.int x1, .ref (fld (fld a0 0) 6)]) (by decide +kernel) rfl rfl ?_
        obtain ⟨g10, e⟩ := gd_inv e
        refine Go.iald (kf_6_j 6 (kf_1_0 k0) (by decide)) (al_6_j 6 (kf_1_0 k0) (by decide) rfl) g10 (by decide +kernel) ?_
        refine Go.run (pc' := 55) [.aload_n 0] (ls' := [some (.ref a0), some (.int x1), some (.int x2)]) (st' := [.ref a0, .int (h (fld (fld a0 0) 6) x1.toNatClampNeg)]) (by decide +kernel) rfl rfl ?_
        refine Go.getR fo_A_12 k0 (by decide +kernel) ?_
        refine Go.getR fo_A_70 (kf_1_0 k0) (by decide +kernel) ?_
        refine Go.run (pc' := 62) [.iload_n 1] (ls' := [some (.ref a0), some (.int x1), some (.int x2)]) (st' := [.int x1, .ref (fld (fld a0 0) 3), .int (h (fld (fld a0 0) 6) x1.toNatClampNeg)]) (by decide +kernel) rfl rfl ?_
        obtain ⟨g11, e⟩ := gd_inv e
        refine Go.iald (kf_6_j 3 (kf_1_0 k0) (by decide)) (al_6_j 3 (kf_1_0 k0) (by decide) rfl) g11 (by decide +kernel) ?_
        refine Go.run (pc' := 65) [.iadd, .aload_n 0] (ls' := [some (.ref a0), some (.int x1), some (.int x2)]) (st' := [.ref a0, .int ((h (fld (fld a0 0) 6) x1.toNatClampNeg) + (h (fld (fld a0 0) 3) x1.toNatClampNeg))]) (by decide +kernel) rfl rfl ?_
        refine Go.getR fo_A_12 k0 (by decide +kernel) ?_
        refine Go.getR fo_A_79 (kf_1_0 k0) (by decide +kernel) ?_
        refine Go.run (pc' := 72) [.iload_n 2] (ls' := [some (.ref a0), some (.int x1), some (.int x2)]) (st' := [.int x2, .ref (fld (fld a0 0) 6), .int ((h (fld (fld a0 0) 6) x1.toNatClampNeg) + (h (fld (fld a0 0) 3) x1.toNatClampNeg))]) (by decide +kernel) rfl rfl ?_
        obtain ⟨g12, e⟩ := gd_inv e
        refine Go.iald (kf_6_j 6 (kf_1_0 k0) (by decide)) (al_6_j 6 (kf_1_0 k0) (by decide) rfl) g12 (by decide +kernel) ?_
        refine Go.ic_eq (off := 34) (tgt := 107) (by decide +kernel) (by decide) (fun c13 => ?_) (fun c13 => ?_)
        · replace e := ite_t c13 e
          refine Go.wk' (wkn (wkn (wkn wk0))) ?_
          exact x_A_areNeighbours_107 hf hI  e
        · replace e := ite_f c13 e
          refine Go.run (pc' := 77) [.aload_n 0] (ls' := [some (.ref a0), some (.int x1), some (.int x2)]) (st' := [.ref a0]) (by decide +kernel) rfl rfl ?_
          refine Go.getR fo_A_12 k0 (by decide +kernel) ?_
          refine Go.getR fo_A_79 (kf_1_0 k0) (by decide +kernel) ?_
          refine Go.run (pc' := 84) [.iload_n 2] (ls' := [some (.ref a0), some (.int x1), some (.int x2)]) (st' := [.int x2, .ref (fld (fld a0 0) 6)]) (by decide +kernel) rfl rfl ?_
          obtain ⟨g14, e⟩ := gd_inv e
          refine Go.iald (kf_6_j 6 (kf_1_0 k0) (by decide)) (al_6_j 6 (kf_1_0 k0) (by decide) rfl) g14 (by decide +kernel) ?_
          refine Go.run (pc' := 86) [.aload_n 0] (ls' := [some (.ref a0), some (.int x1), some (.int x2)]) (st' := [.ref a0, .int (h (fld (fld a0 0) 6) x2.toNatClampNeg)]) (by decide +kernel) rfl rfl ?_
          refine Go.getR fo_A_12 k0 (by decide +kernel) ?_
          refine Go.getR fo_A_70 (kf_1_0 k0) (by decide +kernel) ?_
          refine Go.run (pc' := 93) [.iload_n 2] (ls' := [some (.ref a0), some (.int x1), some (.int x2)]) (st' := [.int x2, .ref (fld (fld a0 0) 3), .int (h (fld (fld a0 0) 6) x2.toNatClampNeg)]) (by decide +kernel) rfl rfl ?_
          obtain ⟨g15, e⟩ := gd_inv e
          refine Go.iald (kf_6_j 3 (kf_1_0 k0) (by decide)) (al_6_j 3 (kf_1_0 k0) (by decide) rfl) g15 (by decide +kernel) ?_
          refine Go.run (pc' := 96) [.iadd, .aload_n 0] (ls' := [some (.ref a0), some (.int x1), some (.int x2)]) (st' := [.ref a0, .int ((h (fld (fld a0 0) 6) x2.toNatClampNeg) + (h (fld (fld a0 0) 3) x2.toNatClampNeg))]) (by decide +kernel) rfl rfl ?_
          refine Go.getR fo_A_12 k0 (by decide +kernel) ?_
          refine Go.getR fo_A_79 (kf_1_0 k0) (by decide +kernel) ?_
          refine Go.run (pc' := 103) [.iload_n 1] (ls' := [some (.ref a0), some (.int x1), some (.int x2)]) (st' := [.int x1, .ref (fld (fld a0 0) 6), .int ((h (fld (fld a0 0) 6) x2.toNatClampNeg) + (h (fld (fld a0 0) 3) x2.toNatClampNeg))]) (by decide +kernel) rfl rfl ?_
          obtain ⟨g16, e⟩ := gd_inv e
          refine Go.iald (kf_6_j 6 (kf_1_0 k0) (by decide)) (al_6_j 6 (kf_1_0 k0) (by decide) rfl) g16 (by decide +kernel) ?_
          refine Go.ic_ne (off := 7) (tgt := 111) (by decide +kernel) (by decide) (fun c17 => ?_) (fun c17 => ?_)
          · replace e := ite_f c17 e
            refine Go.run (pc' := 112) [.iconst 0] (ls' := [some (.ref a0), some (.int x1), some (.int x2)]) (st' := [.int (0 : Int32)]) (by decide +kernel) rfl rfl ?_
            obtain rfl := Option.some.inj e
            exact Go.zret rfl nar_z0 (by decide) (by decide) (by decide +kernel)
          · replace e := ite_t c17 e
            refine Go.wk' (wkn (wkn (wkn wk0))) ?_
            exact x_A_areNeighbours_107 hf hI  e
      · replace e := ite_f c9 e
        refine Go.run (pc' := 44) [.iconst 0] (ls' := [some (.ref a0), some (.int x1), some (.int x2)]) (st' := [.int (0 : Int32)]) (by decide +kernel) rfl rfl ?_
        obtain rfl := Option.some.inj e
        exact Go.zret rfl nar_z0 (by decide) (by decide) (by decide +kernel)
def f_A_rivals_51 (h : HP) (k4_ : Nat → Int32 → Int32 → Int32 → Option (Int32)) (a0 : Nat) (x1 : Int32) (x3 : Int32) (s0 : Int32) (s1 : Int32) : Option (Int32) :=
  k4_ a0 x1 (s0 + s1) (x3 + (1 : Int32))
set_option maxHeartbeats 1000000 in
theorem x_A_rivals_51 {l : Launch} {D : va_G} {ad : Nat → Nat} {aC : Nat → ClassId} (hf : l.flags = flags0) (hI : Inj ad) {h : HP} {k4_ : Nat → Int32 → Int32 → Int32 → Option (Int32)} (K4_ : ∀ {a0 : Nat} {x1 : Int32} {x2 : Int32} {x3 : Int32} {r : Int32}, knd a0 = 1 → k4_ a0 x1 x2 x3 = some r → Go l D ad aC (rmk m_A_rivals) (QM D ad aC m_A_rivals (.inl (some (.int r))) h) m_A_rivals 4 [some (.ref a0), some (.int x1), some (.int x2), some (.int x3)] [] h 0 0) {a0 : Nat} {x1 : Int32} {x3 : Int32} {s0 : Int32} {s1 : Int32} {r : Int32} (k0 : knd a0 = 1) (e : f_A_rivals_51 h k4_ a0 x1 x3 s0 s1 = some r) : Go l D ad aC (rmk m_A_rivals) (QM D ad aC m_A_rivals (.inl (some (.int r))) h) m_A_rivals 51 [some (.ref a0), some (.int x1), none, some (.int x3)] [.int s1, .int s0] h 0 0 := by
  unfold f_A_rivals_51 at e
  refine Go.run (pc' := 56) [.iadd, .istore_n 2, .iinc 3 (1)] (ls' := [some (.ref a0), some (.int x1), some (.int (s0 + s1)), some (.int (x3 + (1 : Int32)))]) (st' := []) (by decide +kernel) rfl rfl ?_
  refine Go.goto (off := -52) (tgt := 4) (by decide +kernel) (by decide) ?_
  exact K4_ k0 e
def f_A_rivals_50 (h : HP) (k4_ : Nat → Int32 → Int32 → Int32 → Option (Int32)) (a0 : Nat) (x1 : Int32) (x3 : Int32) (s0 : Int32) : Option (Int32) :=
  f_A_rivals_51 h k4_ a0 x1 x3 s0 (0 : Int32)
set_option maxHeartbeats 1000000 in
theorem x_A_rivals_50 {l : Launch} {D : va_G} {ad : Nat → Nat} {aC : Nat → ClassId} (hf : l.flags = flags0) (hI : Inj ad) {h : HP} {k4_ : Nat → Int32 → Int32 → Int32 → Option (Int32)} (K4_ : ∀ {a0 : Nat} {x1 : Int32} {x2 : Int32} {x3 : Int32} {r : Int32}, knd a0 = 1 → k4_ a0 x1 x2 x3 = some r → Go l D ad aC (rmk m_A_rivals) (QM D ad aC m_A_rivals (.inl (some (.int r))) h) m_A_rivals 4 [some (.ref a0), some (.int x1), some (.int x2), some (.int x3)] [] h 0 0) {a0 : Nat} {x1 : Int32} {x3 : Int32} {s0 : Int32} {r : Int32} (k0 : knd a0 = 1) (e : f_A_rivals_50 h k4_ a0 x1 x3 s0 = some r) : Go l D ad aC (rmk m_A_rivals) (QM D ad aC m_A_rivals (.inl (some (.int r))) h) m_A_rivals 50 [some (.ref a0), some (.int x1), none, some (.int x3)] [.int s0] h 0 0 := by
  unfold f_A_rivals_50 at e
  refine Go.run (pc' := 51) [.iconst 0] (ls' := [some (.ref a0), some (.int x1), none, some (.int x3)]) (st' := [.int (0 : Int32), .int s0]) (by decide +kernel) rfl rfl ?_
  exact x_A_rivals_51 hf hI K4_ k0 e
def f_A_rivals_4 (h : HP)  : Nat → Nat → Int32 → Int32 → Int32 → Option (Int32)
  | 0, _, _, _, _ => none
  | n + 1, a0, x1, x2, x3 =>
    if (h (fld a0 0) 10) ≤ x3 then
      some x2
    else
      (f_A_areNeighbours h a0 x1 x3).bind fun v2 =>
      if v2 = 0 then
        f_A_rivals_50 h (f_A_rivals_4 h n) a0 x1 x3 x2
      else
        if ib x1 10 = true then
        if ib x3 10 = true then
        if (h (fld (fld a0 0) 2) x1.toNatClampNeg) = (h (fld (fld a0 0) 2) x3.toNatClampNeg) then
          f_A_rivals_51 h (f_A_rivals_4 h n) a0 x1 x3 x2 (1 : Int32)
        else
          f_A_rivals_50 h (f_A_rivals_4 h n) a0 x1 x3 x2
        else none
        else none
set_option maxHeartbeats 1000000 in
theorem x_A_rivals_4 {l : Launch} {D : va_G} {ad : Nat → Nat} {aC : Nat → ClassId} (hf : l.flags = flags0) (hI : Inj ad) {h : HP} : ∀ (n : Nat) {a0 : Nat} {x1 : Int32} {x2 : Int32} {x3 : Int32} {r : Int32}, knd a0 = 1 → f_A_rivals_4 h n a0 x1 x2 x3 = some r → Go l D ad aC (rmk m_A_rivals) (QM D ad aC m_A_rivals (.inl (some (.int r))) h) m_A_rivals 4 [some (.ref a0), some (.int x1), some (.int x2), some (.int x3)] [] h 0 0 := by
  intro n
  induction n with
  | zero => intro a0 x1 x2 x3 r k0 e; exact no_none e
  | succ n ih =>
    intro a0 x1 x2 x3 r k0 e
    rw [f_A_rivals_4] at e
    refine Go.run (pc' := 6) [.iload_n 3, .aload_n 0] (ls' := [some (.ref a0), some (.int x1), some (.int x2), some (.int x3)]) (st' := [.ref a0, .int x3]) (by decide +kernel) rfl rfl ?_
    refine Go.getR fo_A_12 k0 (by decide +kernel) ?_
    refine Go.getI fo_A_61 (kf_1_0 k0) (by decide +kernel) ?_
    refine Go.ic_ge (off := 47) (tgt := 59) (by decide +kernel) (by decide) (fun c1 => ?_) (fun c1 => ?_)
    · replace e := ite_t c1 e
      refine Go.run (pc' := 60) [.iload_n 2] (ls' := [some (.ref a0), some (.int x1), some (.int x2), some (.int x3)]) (st' := [.int x2]) (by decide +kernel) rfl rfl ?_
      obtain rfl := Option.some.inj e
      exact Go.iret rfl (by decide) (by decide) (by decide +kernel)
    · replace e := ite_f c1 e
      refine Go.run (pc' := 19) [.iload_n 2, .aload_n 0, .iload_n 1, .iload_n 3] (ls' := [some (.ref a0), some (.int x1), some (.int x2), some (.int x3)]) (st' := [.int x3, .int x1, .ref a0, .int x2]) (by decide +kernel) rfl rfl ?_
      obtain ⟨v2, e3, e⟩ := bd_inv e
      refine Go.callV (M2 := m_A_areNeighbours) (a := a0) (as := [.int x1, .int x3]) (rest := [.int x2]) (v := some (.int v2)) (h1 := h) (x_A_areNeighbours hf hI k0 e3) wv_A_147 k0 kc_1 (by decide +kernel) rfl rfl ⟨⟨Nat.le_of_ble_eq_true rfl, Nat.le_of_ble_eq_true rfl⟩, ⟨Nat.le_of_ble_eq_true rfl, Nat.le_of_ble_eq_true rfl⟩⟩ (Nat.le_of_ble_eq_true rfl) ?_
      show Go l D ad aC (rmk m_A_rivals) _ m_A_rivals 22 [some (.ref a0), some (.int x1), some (.int x2), some (.int x3)] [.int v2, .int x2] h 0 0
      refine Go.if_eq (off := 28) (tgt := 50) (by decide +kernel) (by decide) (fun c4 => ?_) (fun c4 => ?_)
      · replace e := ite_t c4 e
        refine Go.wk' (wks (wks (wkn (wks wk0)))) ?_
        exact x_A_rivals_50 hf hI (fun kk0 e => ih kk0 e) k0 e
      · replace e := ite_f c4 e
        refine Go.run (pc' := 26) [.aload_n 0] (ls' := [some (.ref a0), some (.int x1), some (.int x2), some (.int x3)]) (st' := [.ref a0, .int x2]) (by decide +kernel) rfl rfl ?_
        refine Go.getR fo_A_12 k0 (by decide +kernel) ?_
        refine Go.getR fo_A_67 (kf_1_0 k0) (by decide +kernel) ?_
        refine Go.run (pc' := 33) [.iload_n 1] (ls' := [some (.ref a0), some (.int x1), some (.int x2), some (.int x3)]) (st' := [.int x1, .ref (fld (fld a0 0) 2), .int x2]) (by decide +kernel) rfl rfl ?_
        obtain ⟨g5, e⟩ := gd_inv e
        refine Go.iald (kf_6_j 2 (kf_1_0 k0) (by decide)) (al_6_j 2 (kf_1_0 k0) (by decide) rfl) g5 (by decide +kernel) ?_
        refine Go.run (pc' := 35) [.aload_n 0] (ls' := [some (.ref a0), some (.int x1), some (.int x2), some (.int x3)]) (st' := [.ref a0, .int (h (fld (fld a0 0) 2) x1.toNatClampNeg), .int x2]) (by decide +kernel) rfl rfl ?_
        refine Go.getR fo_A_12 k0 (by decide +kernel) ?_
        refine Go.getR fo_A_67 (kf_1_0 k0) (by decide +kernel) ?_
        refine Go.run (pc' := 42) [.iload_n 3] (ls' := [some (.ref a0), some (.int x1), some (.int x2), some (.int x3)]) (st' := [.int x3, .ref (fld (fld a0 0) 2), .int (h (fld (fld a0 0) 2) x1.toNatClampNeg), .int x2]) (by decide +kernel) rfl rfl ?_
        obtain ⟨g6, e⟩ := gd_inv e
        refine Go.iald (kf_6_j 2 (kf_1_0 k0) (by decide)) (al_6_j 2 (kf_1_0 k0) (by decide) rfl) g6 (by decide +kernel) ?_
        refine Go.ic_ne (off := 7) (tgt := 50) (by decide +kernel) (by decide) (fun c7 => ?_) (fun c7 => ?_)
        · replace e := ite_f c7 e
          refine Go.wk' (wks (wks (wkn (wks wk0)))) ?_
          exact x_A_rivals_50 hf hI (fun kk0 e => ih kk0 e) k0 e
        · replace e := ite_t c7 e
          refine Go.run (pc' := 47) [.iconst 1] (ls' := [some (.ref a0), some (.int x1), some (.int x2), some (.int x3)]) (st' := [.int (1 : Int32), .int x2]) (by decide +kernel) rfl rfl ?_
          refine Go.goto (off := 4) (tgt := 51) (by decide +kernel) (by decide) ?_
          refine Go.wk' (wks (wks (wkn (wks wk0)))) ?_
          exact x_A_rivals_51 hf hI (fun kk0 e => ih kk0 e) k0 e
def f_A_rivals (h : HP) (a0 : Nat) (x1 : Int32) : Option (Int32) :=
  f_A_rivals_4 h 4096 a0 x1 (0 : Int32) (0 : Int32)
set_option maxHeartbeats 1000000 in
theorem x_A_rivals {l : Launch} {D : va_G} {ad : Nat → Nat} {aC : Nat → ClassId} (hf : l.flags = flags0) (hI : Inj ad) {h : HP} {a0 : Nat} {x1 : Int32} {r : Int32} (k0 : knd a0 = 1) (e : f_A_rivals h a0 x1 = some r) : CT l D ad aC m_A_rivals [.ref a0, .int x1] h (.inl (some (.int r))) h := by
  refine CT.ofGo (by decide +kernel) rfl (Nat.le_of_ble_eq_true rfl) ?_
  unfold f_A_rivals at e
  show Go l D ad aC (rmk m_A_rivals) _ m_A_rivals 0 [some (.ref a0), some (.int x1), none, none] [] h 0 0
  refine Go.run (pc' := 4) [.iconst 0, .istore_n 2, .iconst 0, .istore_n 3] (ls' := [some (.ref a0), some (.int x1), some (.int (0 : Int32)), some (.int (0 : Int32))]) (st' := []) (by decide +kernel) rfl rfl ?_
  exact x_A_rivals_4 hf hI 4096 k0 e
def f_A_plugsLacking (h : HP) (a0 : Nat) (x1 : Int32) : Option (Int32) :=
  (f_S_stands h (fld a0 0) x1).bind fun v1 =>
  if v1 = 0 then
    some (0 : Int32)
  else
    if ib x1 10 = true then
    (f_W_plugsHad h (fld a0 1) x1).bind fun v5 =>
    some ((h (fld (fld a0 0) 4) x1.toNatClampNeg) - v5)
    else none
set_option maxHeartbeats 1000000 in
theorem x_A_plugsLacking {l : Launch} {D : va_G} {ad : Nat → Nat} {aC : Nat → ClassId} (hf : l.flags = flags0) (hI : Inj ad) {h : HP} {a0 : Nat} {x1 : Int32} {r : Int32} (k0 : knd a0 = 1) (e : f_A_plugsLacking h a0 x1 = some r) : CT l D ad aC m_A_plugsLacking [.ref a0, .int x1] h (.inl (some (.int r))) h := by
  refine CT.ofGo (by decide +kernel) rfl (Nat.le_of_ble_eq_true rfl) ?_
  unfold f_A_plugsLacking at e
  show Go l D ad aC (rmk m_A_plugsLacking) _ m_A_plugsLacking 0 [some (.ref a0), some (.int x1)] [] h 0 0
  refine Go.run (pc' := 1) [.aload_n 0] (ls' := [some (.ref a0), some (.int x1)]) (st' := [.ref a0]) (by decide +kernel) rfl rfl ?_
  refine Go.getR fo_A_12 k0 (by decide +kernel) ?_
  refine Go.run (pc' := 5) [.iload_n 1] (ls' := [some (.ref a0), some (.int x1)]) (st' := [.int x1, .ref (fld a0 0)]) (by decide +kernel) rfl rfl ?_
  obtain ⟨v1, e2, e⟩ := bd_inv e
  refine Go.callV (M2 := m_S_stands) (a := (fld a0 0)) (as := [.int x1]) (rest := []) (v := some (.int v1)) (h1 := h) (x_S_stands hf hI (kf_1_0 k0) e2) wv_A_89 (kf_1_0 k0) kc_6 (by decide +kernel) rfl rfl ⟨⟨Nat.le_of_ble_eq_true rfl, Nat.le_of_ble_eq_true rfl⟩, ⟨Nat.le_of_ble_eq_true rfl, Nat.le_of_ble_eq_true rfl⟩⟩ (Nat.le_of_ble_eq_true rfl) ?_
  show Go l D ad aC (rmk m_A_plugsLacking) _ m_A_plugsLacking 8 [some (.ref a0), some (.int x1)] [.int v1] h 0 0
  refine Go.if_eq (off := 24) (tgt := 32) (by decide +kernel) (by decide) (fun c3 => ?_) (fun c3 => ?_)
  · replace e := ite_t c3 e
    refine Go.run (pc' := 33) [.iconst 0] (ls' := [some (.ref a0), some (.int x1)]) (st' := [.int (0 : Int32)]) (by decide +kernel) rfl rfl ?_
    obtain rfl := Option.some.inj e
    exact Go.iret rfl (by decide) (by decide) (by decide +kernel)
  · replace e := ite_f c3 e
    refine Go.run (pc' := 12) [.aload_n 0] (ls' := [some (.ref a0), some (.int x1)]) (st' := [.ref a0]) (by decide +kernel) rfl rfl ?_
    refine Go.getR fo_A_12 k0 (by decide +kernel) ?_
    refine Go.getR fo_A_73 (kf_1_0 k0) (by decide +kernel) ?_
    refine Go.run (pc' := 19) [.iload_n 1] (ls' := [some (.ref a0), some (.int x1)]) (st' := [.int x1, .ref (fld (fld a0 0) 4)]) (by decide +kernel) rfl rfl ?_
    obtain ⟨g4, e⟩ := gd_inv e
    refine Go.iald (kf_6_j 4 (kf_1_0 k0) (by decide)) (al_6_j 4 (kf_1_0 k0) (by decide) rfl) g4 (by decide +kernel) ?_
    refine Go.run (pc' := 21) [.aload_n 0] (ls' := [some (.ref a0), some (.int x1)]) (st' := [.ref a0, .int (h (fld (fld a0 0) 4) x1.toNatClampNeg)]) (by decide +kernel) rfl rfl ?_
    refine Go.getR fo_A_21 k0 (by decide +kernel) ?_
    refine Go.run (pc' := 25) [.iload_n 1] (ls' := [some (.ref a0), some (.int x1)]) (st' := [.int x1, .ref (fld a0 1), .int (h (fld (fld a0 0) 4) x1.toNatClampNeg)]) (by decide +kernel) rfl rfl ?_
    obtain ⟨v5, e6, e⟩ := bd_inv e
    refine Go.callV (M2 := m_W_plugsHad) (a := (fld a0 1)) (as := [.int x1]) (rest := [.int (h (fld (fld a0 0) 4) x1.toNatClampNeg)]) (v := some (.int v5)) (h1 := h) (x_W_plugsHad hf hI (kf_1_1 k0) e6) wv_A_141 (kf_1_1 k0) kc_4 (by decide +kernel) rfl rfl ⟨⟨Nat.le_of_ble_eq_true rfl, Nat.le_of_ble_eq_true rfl⟩, ⟨Nat.le_of_ble_eq_true rfl, Nat.le_of_ble_eq_true rfl⟩⟩ (Nat.le_of_ble_eq_true rfl) ?_
    show Go l D ad aC (rmk m_A_plugsLacking) _ m_A_plugsLacking 28 [some (.ref a0), some (.int x1)] [.int v5, .int (h (fld (fld a0 0) 4) x1.toNatClampNeg)] h 0 0
    refine Go.run (pc' := 29) [.isub] (ls' := [some (.ref a0), some (.int x1)]) (st' := [.int ((h (fld (fld a0 0) 4) x1.toNatClampNeg) - v5)]) (by decide +kernel) rfl rfl ?_
    refine Go.goto (off := 4) (tgt := 33) (by decide +kernel) (by decide) ?_
    obtain rfl := Option.some.inj e
    exact Go.iret rfl (by decide) (by decide) (by decide +kernel)
def f_A_rentOf_82 (h : HP)  (a0 : Nat) (x1 : Int32) (x2 : Int32) : Option (Int32) :=
  if ib (4 : Int32) 6 = true then
  (f_A_plugsLacking h a0 x1).bind fun v2 =>
  (f_J_max h (x2 - ((h (fld (fld a0 0) 8) (4 : Int32).toNatClampNeg) * v2)) (0 : Int32)).bind fun v4 =>
  some v4
  else none
set_option maxHeartbeats 1000000 in
theorem x_A_rentOf_82 {l : Launch} {D : va_G} {ad : Nat → Nat} {aC : Nat → ClassId} (hf : l.flags = flags0) (hI : Inj ad) {h : HP} {a0 : Nat} {x1 : Int32} {x2 : Int32} {r : Int32} (k0 : knd a0 = 1) (e : f_A_rentOf_82 h a0 x1 x2 = some r) : Go l D ad aC (rmk m_A_rentOf) (QM D ad aC m_A_rentOf (.inl (some (.int r))) h) m_A_rentOf 82 [some (.ref a0), some (.int x1), some (.int x2)] [] h 0 0 := by
  unfold f_A_rentOf_82 at e
  refine Go.run (pc' := 84) [.iload_n 2, .aload_n 0] (ls' := [some (.ref a0), some (.int x1), some (.int x2)]) (st' := [.ref a0, .int x2]) (by decide +kernel) rfl rfl ?_
  refine Go.getR fo_A_12 k0 (by decide +kernel) ?_
  refine Go.getR fo_A_109 (kf_1_0 k0) (by decide +kernel) ?_
  refine Go.run (pc' := 91) [.iconst 4] (ls' := [some (.ref a0), some (.int x1), some (.int x2)]) (st' := [.int (4 : Int32), .ref (fld (fld a0 0) 8), .int x2]) (by decide +kernel) rfl rfl ?_
  obtain ⟨g1, e⟩ := gd_inv e
  refine Go.iald (kf_6_j 8 (kf_1_0 k0) (by decide)) (al_6_j 8 (kf_1_0 k0) (by decide) rfl) g1 (by decide +kernel) ?_
  refine Go.run (pc' := 94) [.aload_n 0, .iload_n 1] (ls' := [some (.ref a0), some (.int x1), some (.int x2)]) (st' := [.int x1, .ref a0, .int (h (fld (fld a0 0) 8) (4 : Int32).toNatClampNeg), .int x2]) (by decide +kernel) rfl rfl ?_
  obtain ⟨v2, e3, e⟩ := bd_inv e
  refine Go.callV (M2 := m_A_plugsLacking) (a := a0) (as := [.int x1]) (rest := [.int (h (fld (fld a0 0) 8) (4 : Int32).toNatClampNeg), .int x2]) (v := some (.int v2)) (h1 := h) (x_A_plugsLacking hf hI k0 e3) wv_A_144 k0 kc_1 (by decide +kernel) rfl rfl ⟨⟨Nat.le_of_ble_eq_true rfl, Nat.le_of_ble_eq_true rfl⟩, ⟨Nat.le_of_ble_eq_true rfl, Nat.le_of_ble_eq_true rfl⟩⟩ (Nat.le_of_ble_eq_true rfl) ?_
  show Go l D ad aC (rmk m_A_rentOf) _ m_A_rentOf 97 [some (.ref a0), some (.int x1), some (.int x2)] [.int v2, .int (h (fld (fld a0 0) 8) (4 : Int32).toNatClampNeg), .int x2] h 0 0
  refine Go.run (pc' := 102) [.imul, .isub, .istore_n 2, .iload_n 2, .iconst 0] (ls' := [some (.ref a0), some (.int x1), some (.int (x2 - ((h (fld (fld a0 0) 8) (4 : Int32).toNatClampNeg) * v2)))]) (st' := [.int (0 : Int32), .int (x2 - ((h (fld (fld a0 0) 8) (4 : Int32).toNatClampNeg) * v2))]) (by decide +kernel) rfl rfl ?_
  obtain ⟨v4, e5, e⟩ := bd_inv e
  refine Go.callS (M2 := m_J_max) (as := [.int (x2 - ((h (fld (fld a0 0) 8) (4 : Int32).toNatClampNeg) * v2)), .int (0 : Int32)]) (rest := []) (v := some (.int v4)) (h1 := h) (x_J_max hf hI  e5) ws_A_156 (by decide +kernel) rfl rfl ⟨⟨Nat.le_of_ble_eq_true rfl, Nat.le_of_ble_eq_true rfl⟩, ⟨Nat.le_of_ble_eq_true rfl, Nat.le_of_ble_eq_true rfl⟩⟩ (Nat.le_of_ble_eq_true rfl) ?_
  show Go l D ad aC (rmk m_A_rentOf) _ m_A_rentOf 105 [some (.ref a0), some (.int x1), some (.int (x2 - ((h (fld (fld a0 0) 8) (4 : Int32).toNatClampNeg) * v2)))] [.int v4] h 0 0
  obtain rfl := Option.some.inj e
  exact Go.iret rfl (by decide) (by decide) (by decide +kernel)
def f_A_rentOf (h : HP) (a0 : Nat) (x1 : Int32) : Option (Int32) :=
  (f_S_stands h (fld a0 0) x1).bind fun v1 =>
  if v1 = 0 then
    some (0 : Int32)
  else
    if ib (0 : Int32) 6 = true then
    if ib x1 10 = true then
    if ib (2 : Int32) 6 = true then
    (f_A_endsOf h a0 x1).bind fun v7 =>
    if ib (3 : Int32) 6 = true then
    (f_W_plugsHad h (fld a0 1) x1).bind fun v10 =>
    (f_A_rivals h a0 x1).bind fun v12 =>
    if v12 ≤ 0 then
      f_A_rentOf_82 h a0 x1 ((((h (fld (fld a0 0) 8) (0 : Int32).toNatClampNeg) * (h (fld (fld a0 0) 3) x1.toNatClampNeg)) + ((h (fld (fld a0 0) 8) (2 : Int32).toNatClampNeg) * v7)) + ((h (fld (fld a0 0) 8) (3 : Int32).toNatClampNeg) * v10))
    else
      f_A_rentOf_82 h a0 x1 (((((h (fld (fld a0 0) 8) (0 : Int32).toNatClampNeg) * (h (fld (fld a0 0) 3) x1.toNatClampNeg)) + ((h (fld (fld a0 0) 8) (2 : Int32).toNatClampNeg) * v7)) + ((h (fld (fld a0 0) 8) (3 : Int32).toNatClampNeg) * v10)) - (((((h (fld (fld a0 0) 8) (0 : Int32).toNatClampNeg) * (h (fld (fld a0 0) 3) x1.toNatClampNeg)) + ((h (fld (fld a0 0) 8) (2 : Int32).toNatClampNeg) * v7)) + ((h (fld (fld a0 0) 8) (3 : Int32).toNatClampNeg) * v10)) / (4 : Int32)))
    else none
    else none
    else none
    else none
set_option maxHeartbeats 1000000 in
theorem x_A_rentOf {l : Launch} {D : va_G} {ad : Nat → Nat} {aC : Nat → ClassId} (hf : l.flags = flags0) (hI : Inj ad) {h : HP} {a0 : Nat} {x1 : Int32} {r : Int32} (k0 : knd a0 = 1) (e : f_A_rentOf h a0 x1 = some r) : CT l D ad aC m_A_rentOf [.ref a0, .int x1] h (.inl (some (.int r))) h := by
  refine CT.ofGo (by decide +kernel) rfl (Nat.le_of_ble_eq_true rfl) ?_
  unfold f_A_rentOf at e
  show Go l D ad aC (rmk m_A_rentOf) _ m_A_rentOf 0 [some (.ref a0), some (.int x1), none] [] h 0 0
  refine Go.run (pc' := 1) [.aload_n 0] (ls' := [some (.ref a0), some (.int x1), none]) (st' := [.ref a0]) (by decide +kernel) rfl rfl ?_
  refine Go.getR fo_A_12 k0 (by decide +kernel) ?_
  refine Go.run (pc' := 5) [.iload_n 1] (ls' := [some (.ref a0), some (.int x1), none]) (st' := [.int x1, .ref (fld a0 0)]) (by decide +kernel) rfl rfl ?_
  obtain ⟨v1, e2, e⟩ := bd_inv e
  refine Go.callV (M2 := m_S_stands) (a := (fld a0 0)) (as := [.int x1]) (rest := []) (v := some (.int v1)) (h1 := h) (x_S_stands hf hI (kf_1_0 k0) e2) wv_A_89 (kf_1_0 k0) kc_6 (by decide +kernel) rfl rfl ⟨⟨Nat.le_of_ble_eq_true rfl, Nat.le_of_ble_eq_true rfl⟩, ⟨Nat.le_of_ble_eq_true rfl, Nat.le_of_ble_eq_true rfl⟩⟩ (Nat.le_of_ble_eq_true rfl) ?_
  show Go l D ad aC (rmk m_A_rentOf) _ m_A_rentOf 8 [some (.ref a0), some (.int x1), none] [.int v1] h 0 0
  refine Go.if_ne (off := 5) (tgt := 13) (by decide +kernel) (by decide) (fun c3 => ?_) (fun c3 => ?_)
  · replace e := ite_f c3 e
    refine Go.run (pc' := 14) [.aload_n 0] (ls' := [some (.ref a0), some (.int x1), none]) (st' := [.ref a0]) (by decide +kernel) rfl rfl ?_
    refine Go.getR fo_A_12 k0 (by decide +kernel) ?_
    refine Go.getR fo_A_109 (kf_1_0 k0) (by decide +kernel) ?_
    refine Go.run (pc' := 21) [.iconst 0] (ls' := [some (.ref a0), some (.int x1), none]) (st' := [.int (0 : Int32), .ref (fld (fld a0 0) 8)]) (by decide +kernel) rfl rfl ?_
    obtain ⟨g4, e⟩ := gd_inv e
    refine Go.iald (kf_6_j 8 (kf_1_0 k0) (by decide)) (al_6_j 8 (kf_1_0 k0) (by decide) rfl) g4 (by decide +kernel) ?_
    refine Go.run (pc' := 23) [.aload_n 0] (ls' := [some (.ref a0), some (.int x1), none]) (st' := [.ref a0, .int (h (fld (fld a0 0) 8) (0 : Int32).toNatClampNeg)]) (by decide +kernel) rfl rfl ?_
    refine Go.getR fo_A_12 k0 (by decide +kernel) ?_
    refine Go.getR fo_A_70 (kf_1_0 k0) (by decide +kernel) ?_
    refine Go.run (pc' := 30) [.iload_n 1] (ls' := [some (.ref a0), some (.int x1), none]) (st' := [.int x1, .ref (fld (fld a0 0) 3), .int (h (fld (fld a0 0) 8) (0 : Int32).toNatClampNeg)]) (by decide +kernel) rfl rfl ?_
    obtain ⟨g5, e⟩ := gd_inv e
    refine Go.iald (kf_6_j 3 (kf_1_0 k0) (by decide)) (al_6_j 3 (kf_1_0 k0) (by decide) rfl) g5 (by decide +kernel) ?_
    refine Go.run (pc' := 33) [.imul, .aload_n 0] (ls' := [some (.ref a0), some (.int x1), none]) (st' := [.ref a0, .int ((h (fld (fld a0 0) 8) (0 : Int32).toNatClampNeg) * (h (fld (fld a0 0) 3) x1.toNatClampNeg))]) (by decide +kernel) rfl rfl ?_
    refine Go.getR fo_A_12 k0 (by decide +kernel) ?_
    refine Go.getR fo_A_109 (kf_1_0 k0) (by decide +kernel) ?_
    refine Go.run (pc' := 40) [.iconst 2] (ls' := [some (.ref a0), some (.int x1), none]) (st' := [.int (2 : Int32), .ref (fld (fld a0 0) 8), .int ((h (fld (fld a0 0) 8) (0 : Int32).toNatClampNeg) * (h (fld (fld a0 0) 3) x1.toNatClampNeg))]) (by decide +kernel) rfl rfl ?_
    obtain ⟨g6, e⟩ := gd_inv e
    refine Go.iald (kf_6_j 8 (kf_1_0 k0) (by decide)) (al_6_j 8 (kf_1_0 k0) (by decide) rfl) g6 (by decide +kernel) ?_
    refine Go.run (pc' := 43) [.aload_n 0, .iload_n 1] (ls' := [some (.ref a0), some (.int x1), none]) (st' := [.int x1, .ref a0, .int (h (fld (fld a0 0) 8) (2 : Int32).toNatClampNeg), .int ((h (fld (fld a0 0) 8) (0 : Int32).toNatClampNeg) * (h (fld (fld a0 0) 3) x1.toNatClampNeg))]) (by decide +kernel) rfl rfl ?_
    obtain ⟨v7, e8, e⟩ := bd_inv e
    refine Go.callV (M2 := m_A_endsOf) (a := a0) (as := [.int x1]) (rest := [.int (h (fld (fld a0 0) 8) (2 : Int32).toNatClampNeg), .int ((h (fld (fld a0 0) 8) (0 : Int32).toNatClampNeg) * (h (fld (fld a0 0) 3) x1.toNatClampNeg))]) (v := some (.int v7)) (h1 := h) (x_A_endsOf hf hI k0 e8) wv_A_153 k0 kc_1 (by decide +kernel) rfl rfl ⟨⟨Nat.le_of_ble_eq_true rfl, Nat.le_of_ble_eq_true rfl⟩, ⟨Nat.le_of_ble_eq_true rfl, Nat.le_of_ble_eq_true rfl⟩⟩ (Nat.le_of_ble_eq_true rfl) ?_
    show Go l D ad aC (rmk m_A_rentOf) _ m_A_rentOf 46 [some (.ref a0), some (.int x1), none] [.int v7, .int (h (fld (fld a0 0) 8) (2 : Int32).toNatClampNeg), .int ((h (fld (fld a0 0) 8) (0 : Int32).toNatClampNeg) * (h (fld (fld a0 0) 3) x1.toNatClampNeg))] h 0 0
    refine Go.run (pc' := 49) [.imul, .iadd, .aload_n 0] (ls' := [some (.ref a0), some (.int x1), none]) (st' := [.ref a0, .int (((h (fld (fld a0 0) 8) (0 : Int32).toNatClampNeg) * (h (fld (fld a0 0) 3) x1.toNatClampNeg)) + ((h (fld (fld a0 0) 8) (2 : Int32).toNatClampNeg) * v7))]) (by decide +kernel) rfl rfl ?_
    refine Go.getR fo_A_12 k0 (by decide +kernel) ?_
    refine Go.getR fo_A_109 (kf_1_0 k0) (by decide +kernel) ?_
    refine Go.run (pc' := 56) [.iconst 3] (ls' := [some (.ref a0), some (.int x1), none]) (st' := [.int (3 : Int32), .ref (fld (fld a0 0) 8), .int (((h (fld (fld a0 0) 8) (0 : Int32).toNatClampNeg) * (h (fld (fld a0 0) 3) x1.toNatClampNeg)) + ((h (fld (fld a0 0) 8) (2 : Int32).toNatClampNeg) * v7))]) (by decide +kernel) rfl rfl ?_
    obtain ⟨g9, e⟩ := gd_inv e
    refine Go.iald (kf_6_j 8 (kf_1_0 k0) (by decide)) (al_6_j 8 (kf_1_0 k0) (by decide) rfl) g9 (by decide +kernel) ?_
    refine Go.run (pc' := 58) [.aload_n 0] (ls' := [some (.ref a0), some (.int x1), none]) (st' := [.ref a0, .int (h (fld (fld a0 0) 8) (3 : Int32).toNatClampNeg), .int (((h (fld (fld a0 0) 8) (0 : Int32).toNatClampNeg) * (h (fld (fld a0 0) 3) x1.toNatClampNeg)) + ((h (fld (fld a0 0) 8) (2 : Int32).toNatClampNeg) * v7))]) (by decide +kernel) rfl rfl ?_
    refine Go.getR fo_A_21 k0 (by decide +kernel) ?_
    refine Go.run (pc' := 62) [.iload_n 1] (ls' := [some (.ref a0), some (.int x1), none]) (st' := [.int x1, .ref (fld a0 1), .int (h (fld (fld a0 0) 8) (3 : Int32).toNatClampNeg), .int (((h (fld (fld a0 0) 8) (0 : Int32).toNatClampNeg) * (h (fld (fld a0 0) 3) x1.toNatClampNeg)) + ((h (fld (fld a0 0) 8) (2 : Int32).toNatClampNeg) * v7))]) (by decide +kernel) rfl rfl ?_
    obtain ⟨v10, e11, e⟩ := bd_inv e
    refine Go.callV (M2 := m_W_plugsHad) (a := (fld a0 1)) (as := [.int x1]) (rest := [.int (h (fld (fld a0 0) 8) (3 : Int32).toNatClampNeg), .int (((h (fld (fld a0 0) 8) (0 : Int32).toNatClampNeg) * (h (fld (fld a0 0) 3) x1.toNatClampNeg)) + ((h (fld (fld a0 0) 8) (2 : Int32).toNatClampNeg) * v7))]) (v := some (.int v10)) (h1 := h) (x_W_plugsHad hf hI (kf_1_1 k0) e11) wv_A_141 (kf_1_1 k0) kc_4 (by decide +kernel) rfl rfl ⟨⟨Nat.le_of_ble_eq_true rfl, Nat.le_of_ble_eq_true rfl⟩, ⟨Nat.le_of_ble_eq_true rfl, Nat.le_of_ble_eq_true rfl⟩⟩ (Nat.le_of_ble_eq_true rfl) ?_
    show Go l D ad aC (rmk m_A_rentOf) _ m_A_rentOf 65 [some (.ref a0), some (.int x1), none] [.int v10, .int (h (fld (fld a0 0) 8) (3 : Int32).toNatClampNeg), .int (((h (fld (fld a0 0) 8) (0 : Int32).toNatClampNeg) * (h (fld (fld a0 0) 3) x1.toNatClampNeg)) + ((h (fld (fld a0 0) 8) (2 : Int32).toNatClampNeg) * v7))] h 0 0
    refine Go.run (pc' := 70) [.imul, .iadd, .istore_n 2, .aload_n 0, .iload_n 1] (ls' := [some (.ref a0), some (.int x1), some (.int ((((h (fld (fld a0 0) 8) (0 : Int32).toNatClampNeg) * (h (fld (fld a0 0) 3) x1.toNatClampNeg)) + ((h (fld (fld a0 0) 8) (2 : Int32).toNatClampNeg) * v7)) + ((h (fld (fld a0 0) 8) (3 : Int32).toNatClampNeg) * v10)))]) (st' := [.int x1, .ref a0]) (by decide +kernel) rfl rfl ?_
    obtain ⟨v12, e13, e⟩ := bd_inv e
    refine Go.callV (M2 := m_A_rivals) (a := a0) (as := [.int x1]) (rest := []) (v := some (.int v12)) (h1 := h) (x_A_rivals hf hI k0 e13) wv_A_150 k0 kc_1 (by decide +kernel) rfl rfl ⟨⟨Nat.le_of_ble_eq_true rfl, Nat.le_of_ble_eq_true rfl⟩, ⟨Nat.le_of_ble_eq_true rfl, Nat.le_of_ble_eq_true rfl⟩⟩ (Nat.le_of_ble_eq_true rfl) ?_
    show Go l D ad aC (rmk m_A_rentOf) _ m_A_rentOf 73 [some (.ref a0), some (.int x1), some (.int ((((h (fld (fld a0 0) 8) (0 : Int32).toNatClampNeg) * (h (fld (fld a0 0) 3) x1.toNatClampNeg)) + ((h (fld (fld a0 0) 8) (2 : Int32).toNatClampNeg) * v7)) + ((h (fld (fld a0 0) 8) (3 : Int32).toNatClampNeg) * v10)))] [.int v12] h 0 0
    refine Go.if_le (off := 9) (tgt := 82) (by decide +kernel) (by decide) (fun c14 => ?_) (fun c14 => ?_)
    · replace e := ite_t c14 e
      exact x_A_rentOf_82 hf hI k0 e
    · replace e := ite_f c14 e
      refine Go.run (pc' := 82) [.iload_n 2, .iload_n 2, .iconst 4, .idiv, .isub, .istore_n 2] (ls' := [some (.ref a0), some (.int x1), some (.int (((((h (fld (fld a0 0) 8) (0 : Int32).toNatClampNeg) * (h (fld (fld a0 0) 3) x1.toNatClampNeg)) + ((h (fld (fld a0 0) 8) (2 : Int32).toNatClampNeg) * v7)) + ((h (fld (fld a0 0) 8) (3 : Int32).toNatClampNeg) * v10)) - (((((h (fld (fld a0 0) 8) (0 : Int32).toNatClampNeg) * (h (fld (fld a0 0) 3) x1.toNatClampNeg)) + ((h (fld (fld a0 0) 8) (2 : Int32).toNatClampNeg) * v7)) + ((h (fld (fld a0 0) 8) (3 : Int32).toNatClampNeg) * v10)) / (4 : Int32))))]) (st' := []) (by decide +kernel) rfl rfl ?_
      exact x_A_rentOf_82 hf hI k0 e
  · replace e := ite_t c3 e
    refine Go.run (pc' := 12) [.iconst 0] (ls' := [some (.ref a0), some (.int x1), none]) (st' := [.int (0 : Int32)]) (by decide +kernel) rfl rfl ?_
    obtain rfl := Option.some.inj e
    exact Go.iret rfl (by decide) (by decide) (by decide +kernel)
def f_A_passDays_67  (a0 : Nat) (x1 : Int32) (x2 : Int32) (h : HP) : Option (Int32 × HP) :=
  (some (hset h (fld a0 0) 11 ((h (fld a0 0) 11) + x1))).bind fun h1 =>
  (some (hset h1 (fld a0 0) 12 (0 : Int32))).bind fun h3 =>
  some (x2, h3)
set_option maxHeartbeats 1000000 in
theorem x_A_passDays_67 {l : Launch} {D : va_G} {ad : Nat → Nat} {aC : Nat → ClassId} (hf : l.flags = flags0) (hI : Inj ad) {a0 : Nat} {x1 : Int32} {x2 : Int32} {h : HP} {r : Int32 × HP} (k0 : knd a0 = 1) (e : f_A_passDays_67 a0 x1 x2 h = some r) : Go l D ad aC (rmk m_A_passDays) (QM D ad aC m_A_passDays (.inl (some (.int r.1))) r.2) m_A_passDays 67 [some (.ref a0), some (.int x1), some (.int x2), none, none] [] h 0 0 := by
  unfold f_A_passDays_67 at e
  refine Go.run (pc' := 68) [.aload_n 0] (ls' := [some (.ref a0), some (.int x1), some (.int x2), none, none]) (st' := [.ref a0]) (by decide +kernel) rfl rfl ?_
  refine Go.getR fo_A_12 k0 (by decide +kernel) ?_
  refine Go.run (pc' := 72) [.dup] (ls' := [some (.ref a0), some (.int x1), some (.int x2), none, none]) (st' := [.ref (fld a0 0), .ref (fld a0 0)]) (by decide +kernel) rfl rfl ?_
  refine Go.getI fo_A_103 (kf_1_0 k0) (by decide +kernel) ?_
  refine Go.run (pc' := 77) [.iload_n 1, .iadd] (ls' := [some (.ref a0), some (.int x1), some (.int x2), none, none]) (st' := [.int ((h (fld a0 0) 11) + x1), .ref (fld a0 0)]) (by decide +kernel) rfl rfl ?_
  refine Go.put hI po_A_103 (kf_1_0 k0) (nar_i _) (fit_i _) (by decide +kernel) ?_
  obtain ⟨h1, q2, e⟩ := bd_inv e
  refine Go.eqH (Option.some.inj q2) ?_
  refine Go.run (pc' := 81) [.aload_n 0] (ls' := [some (.ref a0), some (.int x1), some (.int x2), none, none]) (st' := [.ref a0]) (by decide +kernel) rfl rfl ?_
  refine Go.getR fo_A_12 k0 (by decide +kernel) ?_
  refine Go.run (pc' := 85) [.iconst 0] (ls' := [some (.ref a0), some (.int x1), some (.int x2), none, none]) (st' := [.int (0 : Int32), .ref (fld a0 0)]) (by decide +kernel) rfl rfl ?_
  refine Go.put hI po_A_96 (kf_1_0 k0) (nar_i _) (fit_i _) (by decide +kernel) ?_
  obtain ⟨h3, q4, e⟩ := bd_inv e
  refine Go.eqH (Option.some.inj q4) ?_
  refine Go.run (pc' := 89) [.iload_n 2] (ls' := [some (.ref a0), some (.int x1), some (.int x2), none, none]) (st' := [.int x2]) (by decide +kernel) rfl rfl ?_
  obtain rfl := Option.some.inj e
  exact Go.iret rfl (by decide) (by decide) (by decide +kernel)
def f_A_passDays_16  : Nat → Nat → Int32 → Int32 → Int32 → HP → Option (Int32 × HP)
  | 0, _, _, _, _, _ => none
  | n + 1, a0, x1, x2, x3, h =>
    if (h (fld a0 0) 10) ≤ x3 then
      f_A_passDays_67 a0 x1 x2 h
    else
      if (10 : Int32) ≤ x3 then
        f_A_passDays_67 a0 x1 x2 h
      else
        (f_A_rentOf h a0 x3).bind fun v3 =>
        if ib x3 10 = true then
        if ib x3 10 = true then
        (some (hset h (fld (fld a0 0) 7) x3.toNatClampNeg ((h (fld (fld a0 0) 7) x3.toNatClampNeg) + (x1 * v3)))).bind fun h7 =>
        f_A_passDays_16 n a0 x1 (x2 + (x1 * v3)) (x3 + (1 : Int32)) h7
        else none
        else none
set_option maxHeartbeats 1000000 in
theorem x_A_passDays_16 {l : Launch} {D : va_G} {ad : Nat → Nat} {aC : Nat → ClassId} (hf : l.flags = flags0) (hI : Inj ad) : ∀ (n : Nat) {a0 : Nat} {x1 : Int32} {x2 : Int32} {x3 : Int32} {h : HP} {r : Int32 × HP}, knd a0 = 1 → f_A_passDays_16 n a0 x1 x2 x3 h = some r → Go l D ad aC (rmk m_A_passDays) (QM D ad aC m_A_passDays (.inl (some (.int r.1))) r.2) m_A_passDays 16 [some (.ref a0), some (.int x1), some (.int x2), some (.int x3), none] [] h 0 0 := by
  intro n
  induction n with
  | zero => intro a0 x1 x2 x3 h r k0 e; exact no_none e
  | succ n ih =>
    intro a0 x1 x2 x3 h r k0 e
    rw [f_A_passDays_16] at e
    refine Go.run (pc' := 18) [.iload_n 3, .aload_n 0] (ls' := [some (.ref a0), some (.int x1), some (.int x2), some (.int x3), none]) (st' := [.ref a0, .int x3]) (by decide +kernel) rfl rfl ?_
    refine Go.getR fo_A_12 k0 (by decide +kernel) ?_
    refine Go.getI fo_A_61 (kf_1_0 k0) (by decide +kernel) ?_
    refine Go.ic_ge (off := 43) (tgt := 67) (by decide +kernel) (by decide) (fun c1 => ?_) (fun c1 => ?_)
    · replace e := ite_t c1 e
      refine Go.wk' (wks (wks (wks (wkn (wks wk0))))) ?_
      exact x_A_passDays_67 hf hI k0 e
    · replace e := ite_f c1 e
      refine Go.run (pc' := 30) [.iload_n 3, .bipush (10)] (ls' := [some (.ref a0), some (.int x1), some (.int x2), some (.int x3), none]) (st' := [.int (10 : Int32), .int x3]) (by decide +kernel) rfl rfl ?_
      refine Go.ic_ge (off := 37) (tgt := 67) (by decide +kernel) (by decide) (fun c2 => ?_) (fun c2 => ?_)
      · replace e := ite_t c2 e
        refine Go.wk' (wks (wks (wks (wkn (wks wk0))))) ?_
        exact x_A_passDays_67 hf hI k0 e
      · replace e := ite_f c2 e
        refine Go.run (pc' := 36) [.iload_n 1, .aload_n 0, .iload_n 3] (ls' := [some (.ref a0), some (.int x1), some (.int x2), some (.int x3), none]) (st' := [.int x3, .ref a0, .int x1]) (by decide +kernel) rfl rfl ?_
        obtain ⟨v3, e4, e⟩ := bd_inv e
        refine Go.callV (M2 := m_A_rentOf) (a := a0) (as := [.int x3]) (rest := [.int x1]) (v := some (.int v3)) (h1 := h) (x_A_rentOf hf hI k0 e4) wv_A_99 k0 kc_1 (by decide +kernel) rfl rfl ⟨⟨Nat.le_of_ble_eq_true rfl, Nat.le_of_ble_eq_true rfl⟩, ⟨Nat.le_of_ble_eq_true rfl, Nat.le_of_ble_eq_true rfl⟩⟩ (Nat.le_of_ble_eq_true rfl) ?_
        show Go l D ad aC (rmk m_A_passDays) _ m_A_passDays 39 [some (.ref a0), some (.int x1), some (.int x2), some (.int x3), none] [.int v3, .int x1] h 0 0
        refine Go.run (pc' := 43) [.imul, .istore 4, .aload_n 0] (ls' := [some (.ref a0), some (.int x1), some (.int x2), some (.int x3), some (.int (x1 * v3))]) (st' := [.ref a0]) (by decide +kernel) rfl rfl ?_
        refine Go.getR fo_A_12 k0 (by decide +kernel) ?_
        refine Go.getR fo_A_82 (kf_1_0 k0) (by decide +kernel) ?_
        refine Go.run (pc' := 51) [.iload_n 3, .dup2] (ls' := [some (.ref a0), some (.int x1), some (.int x2), some (.int x3), some (.int (x1 * v3))]) (st' := [.int x3, .ref (fld (fld a0 0) 7), .int x3, .ref (fld (fld a0 0) 7)]) (by decide +kernel) rfl rfl ?_
        obtain ⟨g5, e⟩ := gd_inv e
        refine Go.iald (kf_6_j 7 (kf_1_0 k0) (by decide)) (al_6_j 7 (kf_1_0 k0) (by decide) rfl) g5 (by decide +kernel) ?_
        refine Go.run (pc' := 55) [.iload 4, .iadd] (ls' := [some (.ref a0), some (.int x1), some (.int x2), some (.int x3), some (.int (x1 * v3))]) (st' := [.int ((h (fld (fld a0 0) 7) x3.toNatClampNeg) + (x1 * v3)), .int x3, .ref (fld (fld a0 0) 7)]) (by decide +kernel) rfl rfl ?_
        obtain ⟨g6, e⟩ := gd_inv e
        refine Go.iast hI (kf_6_j 7 (kf_1_0 k0) (by decide)) (al_6_j 7 (kf_1_0 k0) (by decide) rfl) g6 (by decide +kernel) ?_
        obtain ⟨h7, q8, e⟩ := bd_inv e
        refine Go.eqH (Option.some.inj q8) ?_
        refine Go.run (pc' := 64) [.iload_n 2, .iload 4, .iadd, .istore_n 2, .iinc 3 (1)] (ls' := [some (.ref a0), some (.int x1), some (.int (x2 + (x1 * v3))), some (.int (x3 + (1 : Int32))), some (.int (x1 * v3))]) (st' := []) (by decide +kernel) rfl rfl ?_
        refine Go.goto (off := -48) (tgt := 16) (by decide +kernel) (by decide) ?_
        refine Go.wk' (wks (wks (wks (wks (wkn wk0))))) ?_
        exact ih k0 e
def f_A_passDays (h : HP) (a0 : Nat) (x1 : Int32) : Option (Int32 × HP) :=
  (f_F_inRange h x1 (1 : Int32) (60 : Int32)).bind fun v1 =>
  if v1 = 0 then
    some ((-1 : Int32), h)
  else
    f_A_passDays_16 4096 a0 x1 (0 : Int32) (0 : Int32) h
set_option maxHeartbeats 1000000 in
theorem x_A_passDays {l : Launch} {D : va_G} {ad : Nat → Nat} {aC : Nat → ClassId} (hf : l.flags = flags0) (hI : Inj ad) {h : HP} {a0 : Nat} {x1 : Int32} {r : Int32 × HP} (k0 : knd a0 = 1) (e : f_A_passDays h a0 x1 = some r) : CT l D ad aC m_A_passDays [.ref a0, .int x1] h (.inl (some (.int r.1))) r.2 := by
  refine CT.ofGo (by decide +kernel) rfl (Nat.le_of_ble_eq_true rfl) ?_
  unfold f_A_passDays at e
  show Go l D ad aC (rmk m_A_passDays) _ m_A_passDays 0 [some (.ref a0), some (.int x1), none, none, none] [] h 0 0
  refine Go.run (pc' := 4) [.iload_n 1, .iconst 1, .bipush (60)] (ls' := [some (.ref a0), some (.int x1), none, none, none]) (st' := [.int (60 : Int32), .int (1 : Int32), .int x1]) (by decide +kernel) rfl rfl ?_
  obtain ⟨v1, e2, e⟩ := bd_inv e
  refine Go.callN (M2 := m_F_inRange) (as := [.int x1, .int (1 : Int32), .int (60 : Int32)]) (rest := []) (v := some (.int v1)) (h1 := h) (x_F_inRange hf hI  e2) wn_A_25 (by decide +kernel) rfl rfl ⟨⟨Nat.le_of_ble_eq_true rfl, Nat.le_of_ble_eq_true rfl⟩, ⟨Nat.le_of_ble_eq_true rfl, Nat.le_of_ble_eq_true rfl⟩⟩ (Nat.le_of_ble_eq_true rfl) ?_
  show Go l D ad aC (rmk m_A_passDays) _ m_A_passDays 7 [some (.ref a0), some (.int x1), none, none, none] [.int v1] h 0 0
  refine Go.if_ne (off := 5) (tgt := 12) (by decide +kernel) (by decide) (fun c3 => ?_) (fun c3 => ?_)
  · replace e := ite_f c3 e
    refine Go.run (pc' := 16) [.iconst 0, .istore_n 2, .iconst 0, .istore_n 3] (ls' := [some (.ref a0), some (.int x1), some (.int (0 : Int32)), some (.int (0 : Int32)), none]) (st' := []) (by decide +kernel) rfl rfl ?_
    exact x_A_passDays_16 hf hI 4096 k0 e
  · replace e := ite_t c3 e
    refine Go.run (pc' := 11) [.iconst (-1)] (ls' := [some (.ref a0), some (.int x1), none, none, none]) (st' := [.int (-1 : Int32)]) (by decide +kernel) rfl rfl ?_
    obtain rfl := Option.some.inj e
    exact Go.iret rfl (by decide) (by decide) (by decide +kernel)
def f_A_changeSetting (h : HP) (a0 : Nat) (x1 : Int32) (x2 : Int32) : Option (Int32 × HP) :=
  (f_A_isSetting h x1 x2).bind fun v1 =>
  if v1 = 0 then
    some ((-1 : Int32), h)
  else
    if ib x1 6 = true then
    if ib x1 6 = true then
    (some (hset h (fld (fld a0 0) 8) x1.toNatClampNeg x2)).bind fun h6 =>
    (f_W_shareOut h6 (fld a0 1) (fld a0 0)).bind fun v8 =>
    some (h (fld (fld a0 0) 8) x1.toNatClampNeg, v8)
    else none
    else none
set_option maxHeartbeats 1000000 in
theorem x_A_changeSetting {l : Launch} {D : va_G} {ad : Nat → Nat} {aC : Nat → ClassId} (hf : l.flags = flags0) (hI : Inj ad) {h : HP} {a0 : Nat} {x1 : Int32} {x2 : Int32} {r : Int32 × HP} (k0 : knd a0 = 1) (e : f_A_changeSetting h a0 x1 x2 = some r) : CT l D ad aC m_A_changeSetting [.ref a0, .int x1, .int x2] h (.inl (some (.int r.1))) r.2 := by
  refine CT.ofGo (by decide +kernel) rfl (Nat.le_of_ble_eq_true rfl) ?_
  unfold f_A_changeSetting at e
  show Go l D ad aC (rmk m_A_changeSetting) _ m_A_changeSetting 0 [some (.ref a0), some (.int x1), some (.int x2), none] [] h 0 0
  refine Go.run (pc' := 2) [.iload_n 1, .iload_n 2] (ls' := [some (.ref a0), some (.int x1), some (.int x2), none]) (st' := [.int x2, .int x1]) (by decide +kernel) rfl rfl ?_
  obtain ⟨v1, e2, e⟩ := bd_inv e
  refine Go.callS (M2 := m_A_isSetting) (as := [.int x1, .int x2]) (rest := []) (v := some (.int v1)) (h1 := h) (x_A_isSetting hf hI  e2) ws_A_106 (by decide +kernel) rfl rfl ⟨⟨Nat.le_of_ble_eq_true rfl, Nat.le_of_ble_eq_true rfl⟩, ⟨Nat.le_of_ble_eq_true rfl, Nat.le_of_ble_eq_true rfl⟩⟩ (Nat.le_of_ble_eq_true rfl) ?_
  show Go l D ad aC (rmk m_A_changeSetting) _ m_A_changeSetting 5 [some (.ref a0), some (.int x1), some (.int x2), none] [.int v1] h 0 0
  refine Go.if_ne (off := 5) (tgt := 10) (by decide +kernel) (by decide) (fun c3 => ?_) (fun c3 => ?_)
  · replace e := ite_f c3 e
    refine Go.run (pc' := 11) [.aload_n 0] (ls' := [some (.ref a0), some (.int x1), some (.int x2), none]) (st' := [.ref a0]) (by decide +kernel) rfl rfl ?_
    refine Go.getR fo_A_12 k0 (by decide +kernel) ?_
    refine Go.getR fo_A_109 (kf_1_0 k0) (by decide +kernel) ?_
    refine Go.run (pc' := 18) [.iload_n 1] (ls' := [some (.ref a0), some (.int x1), some (.int x2), none]) (st' := [.int x1, .ref (fld (fld a0 0) 8)]) (by decide +kernel) rfl rfl ?_
    obtain ⟨g4, e⟩ := gd_inv e
    refine Go.iald (kf_6_j 8 (kf_1_0 k0) (by decide)) (al_6_j 8 (kf_1_0 k0) (by decide) rfl) g4 (by decide +kernel) ?_
    refine Go.run (pc' := 21) [.istore_n 3, .aload_n 0] (ls' := [some (.ref a0), some (.int x1), some (.int x2), some (.int (h (fld (fld a0 0) 8) x1.toNatClampNeg))]) (st' := [.ref a0]) (by decide +kernel) rfl rfl ?_
    refine Go.getR fo_A_12 k0 (by decide +kernel) ?_
    refine Go.getR fo_A_109 (kf_1_0 k0) (by decide +kernel) ?_
    refine Go.run (pc' := 29) [.iload_n 1, .iload_n 2] (ls' := [some (.ref a0), some (.int x1), some (.int x2), some (.int (h (fld (fld a0 0) 8) x1.toNatClampNeg))]) (st' := [.int x2, .int x1, .ref (fld (fld a0 0) 8)]) (by decide +kernel) rfl rfl ?_
    obtain ⟨g5, e⟩ := gd_inv e
    refine Go.iast hI (kf_6_j 8 (kf_1_0 k0) (by decide)) (al_6_j 8 (kf_1_0 k0) (by decide) rfl) g5 (by decide +kernel) ?_
    obtain ⟨h6, q7, e⟩ := bd_inv e
    refine Go.eqH (Option.some.inj q7) ?_
    refine Go.run (pc' := 31) [.aload_n 0] (ls' := [some (.ref a0), some (.int x1), some (.int x2), some (.int (h (fld (fld a0 0) 8) x1.toNatClampNeg))]) (st' := [.ref a0]) (by decide +kernel) rfl rfl ?_
    refine Go.getR fo_A_21 k0 (by decide +kernel) ?_
    refine Go.run (pc' := 35) [.aload_n 0] (ls' := [some (.ref a0), some (.int x1), some (.int x2), some (.int (h (fld (fld a0 0) 8) x1.toNatClampNeg))]) (st' := [.ref a0, .ref (fld a0 1)]) (by decide +kernel) rfl rfl ?_
    refine Go.getR fo_A_12 k0 (by decide +kernel) ?_
    obtain ⟨v8, e9, e⟩ := bd_inv e
    refine Go.callV (M2 := m_W_shareOut) (a := (fld a0 1)) (as := [.ref (fld a0 0)]) (rest := []) (v := none) (h1 := v8) (x_W_shareOut hf hI (kf_1_1 k0) (kf_1_0 k0) e9) wv_A_36 (kf_1_1 k0) kc_4 (by decide +kernel) rfl rfl ⟨⟨Nat.le_of_ble_eq_true rfl, Nat.le_of_ble_eq_true rfl⟩, ⟨Nat.le_of_ble_eq_true rfl, Nat.le_of_ble_eq_true rfl⟩⟩ (Nat.le_of_ble_eq_true rfl) ?_
    show Go l D ad aC (rmk m_A_changeSetting) _ m_A_changeSetting 41 [some (.ref a0), some (.int x1), some (.int x2), some (.int (h (fld (fld a0 0) 8) x1.toNatClampNeg))] [] v8 0 0
    refine Go.run (pc' := 42) [.iload_n 3] (ls' := [some (.ref a0), some (.int x1), some (.int x2), some (.int (h (fld (fld a0 0) 8) x1.toNatClampNeg))]) (st' := [.int (h (fld (fld a0 0) 8) x1.toNatClampNeg)]) (by decide +kernel) rfl rfl ?_
    obtain rfl := Option.some.inj e
    exact Go.iret rfl (by decide) (by decide) (by decide +kernel)
  · replace e := ite_t c3 e
    refine Go.run (pc' := 9) [.iconst (-1)] (ls' := [some (.ref a0), some (.int x1), some (.int x2), none]) (st' := [.int (-1 : Int32)]) (by decide +kernel) rfl rfl ?_
    obtain rfl := Option.some.inj e
    exact Go.iret rfl (by decide) (by decide) (by decide +kernel)
def f_A_countRefusal (h : HP) (a0 : Nat) (x1 : Int32) : Option (Int32 × HP) :=
  if x1 = 0 then
    some (x1, h)
  else
    (some (hset h (fld a0 0) 13 ((h (fld a0 0) 13) + (1 : Int32)))).bind fun h2 =>
    some (x1, h2)
set_option maxHeartbeats 1000000 in
theorem x_A_countRefusal {l : Launch} {D : va_G} {ad : Nat → Nat} {aC : Nat → ClassId} (hf : l.flags = flags0) (hI : Inj ad) {h : HP} {a0 : Nat} {x1 : Int32} {r : Int32 × HP} (k0 : knd a0 = 1) (e : f_A_countRefusal h a0 x1 = some r) : CT l D ad aC m_A_countRefusal [.ref a0, .int x1] h (.inl (some (.int r.1))) r.2 := by
  refine CT.ofGo (by decide +kernel) rfl (Nat.le_of_ble_eq_true rfl) ?_
  unfold f_A_countRefusal at e
  show Go l D ad aC (rmk m_A_countRefusal) _ m_A_countRefusal 0 [some (.ref a0), some (.int x1)] [] h 0 0
  refine Go.run (pc' := 1) [.iload_n 1] (ls' := [some (.ref a0), some (.int x1)]) (st' := [.int x1]) (by decide +kernel) rfl rfl ?_
  refine Go.if_eq (off := 16) (tgt := 17) (by decide +kernel) (by decide) (fun c1 => ?_) (fun c1 => ?_)
  · replace e := ite_t c1 e
    refine Go.run (pc' := 18) [.iload_n 1] (ls' := [some (.ref a0), some (.int x1)]) (st' := [.int x1]) (by decide +kernel) rfl rfl ?_
    obtain rfl := Option.some.inj e
    exact Go.iret rfl (by decide) (by decide) (by decide +kernel)
  · replace e := ite_f c1 e
    refine Go.run (pc' := 5) [.aload_n 0] (ls' := [some (.ref a0), some (.int x1)]) (st' := [.ref a0]) (by decide +kernel) rfl rfl ?_
    refine Go.getR fo_A_12 k0 (by decide +kernel) ?_
    refine Go.run (pc' := 9) [.dup] (ls' := [some (.ref a0), some (.int x1)]) (st' := [.ref (fld a0 0), .ref (fld a0 0)]) (by decide +kernel) rfl rfl ?_
    refine Go.getI fo_A_112 (kf_1_0 k0) (by decide +kernel) ?_
    refine Go.run (pc' := 14) [.iconst 1, .iadd] (ls' := [some (.ref a0), some (.int x1)]) (st' := [.int ((h (fld a0 0) 13) + (1 : Int32)), .ref (fld a0 0)]) (by decide +kernel) rfl rfl ?_
    refine Go.put hI po_A_112 (kf_1_0 k0) (nar_i _) (fit_i _) (by decide +kernel) ?_
    obtain ⟨h2, q3, e⟩ := bd_inv e
    refine Go.eqH (Option.some.inj q3) ?_
    refine Go.run (pc' := 18) [.iload_n 1] (ls' := [some (.ref a0), some (.int x1)]) (st' := [.int x1]) (by decide +kernel) rfl rfl ?_
    obtain rfl := Option.some.inj e
    exact Go.iret rfl (by decide) (by decide) (by decide +kernel)
def f_A_rentMovedTo (h : HP) (a0 : Nat) (x1 : Int32) (x2 : Int32) (x3 : Int32) : Option (Int32 × HP) :=
  (f_A_sendAway h a0 x1).bind fun v1 =>
  (f_A_letStand v1.2 a0 x1 x2 x3).bind fun v3 =>
  if v3.1 = 0 then
    (f_A_rentOf v3.2 a0 x1).bind fun v6 =>
    some (v6, v3.2)
  else
    some ((-1 : Int32), v3.2)
set_option maxHeartbeats 1000000 in
theorem x_A_rentMovedTo {l : Launch} {D : va_G} {ad : Nat → Nat} {aC : Nat → ClassId} (hf : l.flags = flags0) (hI : Inj ad) {h : HP} {a0 : Nat} {x1 : Int32} {x2 : Int32} {x3 : Int32} {r : Int32 × HP} (k0 : knd a0 = 1) (e : f_A_rentMovedTo h a0 x1 x2 x3 = some r) : CT l D ad aC m_A_rentMovedTo [.ref a0, .int x1, .int x2, .int x3] h (.inl (some (.int r.1))) r.2 := by
  refine CT.ofGo (by decide +kernel) rfl (Nat.le_of_ble_eq_true rfl) ?_
  unfold f_A_rentMovedTo at e
  show Go l D ad aC (rmk m_A_rentMovedTo) _ m_A_rentMovedTo 0 [some (.ref a0), some (.int x1), some (.int x2), some (.int x3)] [] h 0 0
  refine Go.run (pc' := 2) [.aload_n 0, .iload_n 1] (ls' := [some (.ref a0), some (.int x1), some (.int x2), some (.int x3)]) (st' := [.int x1, .ref a0]) (by decide +kernel) rfl rfl ?_
  obtain ⟨v1, e2, e⟩ := bd_inv e
  refine Go.callV (M2 := m_A_sendAway) (a := a0) (as := [.int x1]) (rest := []) (v := some (.int v1.1)) (h1 := v1.2) (x_A_sendAway hf hI k0 e2) wv_A_115 k0 kc_1 (by decide +kernel) rfl rfl ⟨⟨Nat.le_of_ble_eq_true rfl, Nat.le_of_ble_eq_true rfl⟩, ⟨Nat.le_of_ble_eq_true rfl, Nat.le_of_ble_eq_true rfl⟩⟩ (Nat.le_of_ble_eq_true rfl) ?_
  show Go l D ad aC (rmk m_A_rentMovedTo) _ m_A_rentMovedTo 5 [some (.ref a0), some (.int x1), some (.int x2), some (.int x3)] [.int v1.1] v1.2 0 0
  refine Go.run (pc' := 10) [.pop, .aload_n 0, .iload_n 1, .iload_n 2, .iload_n 3] (ls' := [some (.ref a0), some (.int x1), some (.int x2), some (.int x3)]) (st' := [.int x3, .int x2, .int x1, .ref a0]) (by decide +kernel) rfl rfl ?_
  obtain ⟨v3, e4, e⟩ := bd_inv e
  refine Go.callV (M2 := m_A_letStand) (a := a0) (as := [.int x1, .int x2, .int x3]) (rest := []) (v := some (.int v3.1)) (h1 := v3.2) (x_A_letStand hf hI k0 e4) wv_A_118 k0 kc_1 (by decide +kernel) rfl rfl ⟨⟨Nat.le_of_ble_eq_true rfl, Nat.le_of_ble_eq_true rfl⟩, ⟨Nat.le_of_ble_eq_true rfl, Nat.le_of_ble_eq_true rfl⟩⟩ (Nat.le_of_ble_eq_true rfl) ?_
  show Go l D ad aC (rmk m_A_rentMovedTo) _ m_A_rentMovedTo 13 [some (.ref a0), some (.int x1), some (.int x2), some (.int x3)] [.int v3.1] v3.2 0 0
  refine Go.if_ne (off := 11) (tgt := 24) (by decide +kernel) (by decide) (fun c5 => ?_) (fun c5 => ?_)
  · replace e := ite_f c5 e
    refine Go.run (pc' := 25) [.iconst (-1)] (ls' := [some (.ref a0), some (.int x1), some (.int x2), some (.int x3)]) (st' := [.int (-1 : Int32)]) (by decide +kernel) rfl rfl ?_
    obtain rfl := Option.some.inj e
    exact Go.iret rfl (by decide) (by decide) (by decide +kernel)
  · replace e := ite_t c5 e
    refine Go.run (pc' := 18) [.aload_n 0, .iload_n 1] (ls' := [some (.ref a0), some (.int x1), some (.int x2), some (.int x3)]) (st' := [.int x1, .ref a0]) (by decide +kernel) rfl rfl ?_
    obtain ⟨v6, e7, e⟩ := bd_inv e
    refine Go.callV (M2 := m_A_rentOf) (a := a0) (as := [.int x1]) (rest := []) (v := some (.int v6)) (h1 := v3.2) (x_A_rentOf hf hI k0 e7) wv_A_99 k0 kc_1 (by decide +kernel) rfl rfl ⟨⟨Nat.le_of_ble_eq_true rfl, Nat.le_of_ble_eq_true rfl⟩, ⟨Nat.le_of_ble_eq_true rfl, Nat.le_of_ble_eq_true rfl⟩⟩ (Nat.le_of_ble_eq_true rfl) ?_
    show Go l D ad aC (rmk m_A_rentMovedTo) _ m_A_rentMovedTo 21 [some (.ref a0), some (.int x1), some (.int x2), some (.int x3)] [.int v6] v3.2 0 0
    refine Go.goto (off := 4) (tgt := 25) (by decide +kernel) (by decide) ?_
    obtain rfl := Option.some.inj e
    exact Go.iret rfl (by decide) (by decide) (by decide +kernel)
def f_A_standing_32 (h : HP) (k4_ : Nat → Int32 → Int32 → Option (Int32)) (a0 : Nat) (x2 : Int32) (s0 : Int32) (s1 : Int32) : Option (Int32) :=
  k4_ a0 (s0 + s1) (x2 + (1 : Int32))
set_option maxHeartbeats 1000000 in
theorem x_A_standing_32 {l : Launch} {D : va_G} {ad : Nat → Nat} {aC : Nat → ClassId} (hf : l.flags = flags0) (hI : Inj ad) {h : HP} {k4_ : Nat → Int32 → Int32 → Option (Int32)} (K4_ : ∀ {a0 : Nat} {x1 : Int32} {x2 : Int32} {r : Int32}, knd a0 = 1 → k4_ a0 x1 x2 = some r → Go l D ad aC (rmk m_A_standing) (QM D ad aC m_A_standing (.inl (some (.int r))) h) m_A_standing 4 [some (.ref a0), some (.int x1), some (.int x2)] [] h 0 0) {a0 : Nat} {x2 : Int32} {s0 : Int32} {s1 : Int32} {r : Int32} (k0 : knd a0 = 1) (e : f_A_standing_32 h k4_ a0 x2 s0 s1 = some r) : Go l D ad aC (rmk m_A_standing) (QM D ad aC m_A_standing (.inl (some (.int r))) h) m_A_standing 32 [some (.ref a0), none, some (.int x2)] [.int s1, .int s0] h 0 0 := by
  unfold f_A_standing_32 at e
  refine Go.run (pc' := 37) [.iadd, .istore_n 1, .iinc 2 (1)] (ls' := [some (.ref a0), some (.int (s0 + s1)), some (.int (x2 + (1 : Int32)))]) (st' := []) (by decide +kernel) rfl rfl ?_
  refine Go.goto (off := -33) (tgt := 4) (by decide +kernel) (by decide) ?_
  exact K4_ k0 e
def f_A_standing_4 (h : HP)  : Nat → Nat → Int32 → Int32 → Option (Int32)
  | 0, _, _, _ => none
  | n + 1, a0, x1, x2 =>
    if (h (fld a0 0) 10) ≤ x2 then
      some x1
    else
      (f_S_stands h (fld a0 0) x2).bind fun v2 =>
      if v2 = 0 then
        f_A_standing_32 h (f_A_standing_4 h n) a0 x2 x1 (0 : Int32)
      else
        f_A_standing_32 h (f_A_standing_4 h n) a0 x2 x1 (1 : Int32)
set_option maxHeartbeats 1000000 in
theorem x_A_standing_4 {l : Launch} {D : va_G} {ad : Nat → Nat} {aC : Nat → ClassId} (hf : l.flags = flags0) (hI : Inj ad) {h : HP} : ∀ (n : Nat) {a0 : Nat} {x1 : Int32} {x2 : Int32} {r : Int32}, knd a0 = 1 → f_A_standing_4 h n a0 x1 x2 = some r → Go l D ad aC (rmk m_A_standing) (QM D ad aC m_A_standing (.inl (some (.int r))) h) m_A_standing 4 [some (.ref a0), some (.int x1), some (.int x2)] [] h 0 0 := by
  intro n
  induction n with
  | zero => intro a0 x1 x2 r k0 e; exact no_none e
  | succ n ih =>
    intro a0 x1 x2 r k0 e
    rw [f_A_standing_4] at e
    refine Go.run (pc' := 6) [.iload_n 2, .aload_n 0] (ls' := [some (.ref a0), some (.int x1), some (.int x2)]) (st' := [.ref a0, .int x2]) (by decide +kernel) rfl rfl ?_
    refine Go.getR fo_A_12 k0 (by decide +kernel) ?_
    refine Go.getI fo_A_61 (kf_1_0 k0) (by decide +kernel) ?_
    refine Go.ic_ge (off := 28) (tgt := 40) (by decide +kernel) (by decide) (fun c1 => ?_) (fun c1 => ?_)
    · replace e := ite_t c1 e
      refine Go.run (pc' := 41) [.iload_n 1] (ls' := [some (.ref a0), some (.int x1), some (.int x2)]) (st' := [.int x1]) (by decide +kernel) rfl rfl ?_
      obtain rfl := Option.some.inj e
      exact Go.iret rfl (by decide) (by decide) (by decide +kernel)
    · replace e := ite_f c1 e
      refine Go.run (pc' := 17) [.iload_n 1, .aload_n 0] (ls' := [some (.ref a0), some (.int x1), some (.int x2)]) (st' := [.ref a0, .int x1]) (by decide +kernel) rfl rfl ?_
      refine Go.getR fo_A_12 k0 (by decide +kernel) ?_
      refine Go.run (pc' := 21) [.iload_n 2] (ls' := [some (.ref a0), some (.int x1), some (.int x2)]) (st' := [.int x2, .ref (fld a0 0), .int x1]) (by decide +kernel) rfl rfl ?_
      obtain ⟨v2, e3, e⟩ := bd_inv e
      refine Go.callV (M2 := m_S_stands) (a := (fld a0 0)) (as := [.int x2]) (rest := [.int x1]) (v := some (.int v2)) (h1 := h) (x_S_stands hf hI (kf_1_0 k0) e3) wv_A_89 (kf_1_0 k0) kc_6 (by decide +kernel) rfl rfl ⟨⟨Nat.le_of_ble_eq_true rfl, Nat.le_of_ble_eq_true rfl⟩, ⟨Nat.le_of_ble_eq_true rfl, Nat.le_of_ble_eq_true rfl⟩⟩ (Nat.le_of_ble_eq_true rfl) ?_
      show Go l D ad aC (rmk m_A_standing) _ m_A_standing 24 [some (.ref a0), some (.int x1), some (.int x2)] [.int v2, .int x1] h 0 0
      refine Go.if_eq (off := 7) (tgt := 31) (by decide +kernel) (by decide) (fun c4 => ?_) (fun c4 => ?_)
      · replace e := ite_t c4 e
        refine Go.run (pc' := 32) [.iconst 0] (ls' := [some (.ref a0), some (.int x1), some (.int x2)]) (st' := [.int (0 : Int32), .int x1]) (by decide +kernel) rfl rfl ?_
        refine Go.wk' (wks (wkn (wks wk0))) ?_
        exact x_A_standing_32 hf hI (fun kk0 e => ih kk0 e) k0 e
      · replace e := ite_f c4 e
        refine Go.run (pc' := 28) [.iconst 1] (ls' := [some (.ref a0), some (.int x1), some (.int x2)]) (st' := [.int (1 : Int32), .int x1]) (by decide +kernel) rfl rfl ?_
        refine Go.goto (off := 4) (tgt := 32) (by decide +kernel) (by decide) ?_
        refine Go.wk' (wks (wkn (wks wk0))) ?_
        exact x_A_standing_32 hf hI (fun kk0 e => ih kk0 e) k0 e
def f_A_standing (h : HP) (a0 : Nat) : Option (Int32) :=
  f_A_standing_4 h 4096 a0 (0 : Int32) (0 : Int32)
set_option maxHeartbeats 1000000 in
theorem x_A_standing {l : Launch} {D : va_G} {ad : Nat → Nat} {aC : Nat → ClassId} (hf : l.flags = flags0) (hI : Inj ad) {h : HP} {a0 : Nat} {r : Int32} (k0 : knd a0 = 1) (e : f_A_standing h a0 = some r) : CT l D ad aC m_A_standing [.ref a0] h (.inl (some (.int r))) h := by
  refine CT.ofGo (by decide +kernel) rfl (Nat.le_of_ble_eq_true rfl) ?_
  unfold f_A_standing at e
  show Go l D ad aC (rmk m_A_standing) _ m_A_standing 0 [some (.ref a0), none, none] [] h 0 0
  refine Go.run (pc' := 4) [.iconst 0, .istore_n 1, .iconst 0, .istore_n 2] (ls' := [some (.ref a0), some (.int (0 : Int32)), some (.int (0 : Int32))]) (st' := []) (by decide +kernel) rfl rfl ?_
  exact x_A_standing_4 hf hI 4096 k0 e
def f_A_allOwed_4 (h : HP)  : Nat → Nat → Int32 → Int32 → Option (Int32)
  | 0, _, _, _ => none
  | n + 1, a0, x1, x2 =>
    if (h (fld a0 0) 10) ≤ x2 then
      some x1
    else
      if (10 : Int32) ≤ x2 then
        some x1
      else
        if ib x2 10 = true then
        f_A_allOwed_4 h n a0 (x1 + (h (fld (fld a0 0) 7) x2.toNatClampNeg)) (x2 + (1 : Int32))
        else none
set_option maxHeartbeats 1000000 in
theorem x_A_allOwed_4 {l : Launch} {D : va_G} {ad : Nat → Nat} {aC : Nat → ClassId} (hf : l.flags = flags0) (hI : Inj ad) {h : HP} : ∀ (n : Nat) {a0 : Nat} {x1 : Int32} {x2 : Int32} {r : Int32}, knd a0 = 1 → f_A_allOwed_4 h n a0 x1 x2 = some r → Go l D ad aC (rmk m_A_allOwed) (QM D ad aC m_A_allOwed (.inl (some (.int r))) h) m_A_allOwed 4 [some (.ref a0), some (.int x1), some (.int x2)] [] h 0 0 := by
  intro n
  induction n with
  | zero => intro a0 x1 x2 r k0 e; exact no_none e
  | succ n ih =>
    intro a0 x1 x2 r k0 e
    rw [f_A_allOwed_4] at e
    refine Go.run (pc' := 6) [.iload_n 2, .aload_n 0] (ls' := [some (.ref a0), some (.int x1), some (.int x2)]) (st' := [.ref a0, .int x2]) (by decide +kernel) rfl rfl ?_
    refine Go.getR fo_A_12 k0 (by decide +kernel) ?_
    refine Go.getI fo_A_61 (kf_1_0 k0) (by decide +kernel) ?_
    refine Go.ic_ge (off := 27) (tgt := 39) (by decide +kernel) (by decide) (fun c1 => ?_) (fun c1 => ?_)
    · replace e := ite_t c1 e
      refine Go.run (pc' := 40) [.iload_n 1] (ls' := [some (.ref a0), some (.int x1), some (.int x2)]) (st' := [.int x1]) (by decide +kernel) rfl rfl ?_
      obtain rfl := Option.some.inj e
      exact Go.iret rfl (by decide) (by decide) (by decide +kernel)
    · replace e := ite_f c1 e
      refine Go.run (pc' := 18) [.iload_n 2, .bipush (10)] (ls' := [some (.ref a0), some (.int x1), some (.int x2)]) (st' := [.int (10 : Int32), .int x2]) (by decide +kernel) rfl rfl ?_
      refine Go.ic_ge (off := 21) (tgt := 39) (by decide +kernel) (by decide) (fun c2 => ?_) (fun c2 => ?_)
      · replace e := ite_t c2 e
        refine Go.run (pc' := 40) [.iload_n 1] (ls' := [some (.ref a0), some (.int x1), some (.int x2)]) (st' := [.int x1]) (by decide +kernel) rfl rfl ?_
        obtain rfl := Option.some.inj e
        exact Go.iret rfl (by decide) (by decide) (by decide +kernel)
      · replace e := ite_f c2 e
        refine Go.run (pc' := 23) [.iload_n 1, .aload_n 0] (ls' := [some (.ref a0), some (.int x1), some (.int x2)]) (st' := [.ref a0, .int x1]) (by decide +kernel) rfl rfl ?_
        refine Go.getR fo_A_12 k0 (by decide +kernel) ?_
        refine Go.getR fo_A_82 (kf_1_0 k0) (by decide +kernel) ?_
        refine Go.run (pc' := 30) [.iload_n 2] (ls' := [some (.ref a0), some (.int x1), some (.int x2)]) (st' := [.int x2, .ref (fld (fld a0 0) 7), .int x1]) (by decide +kernel) rfl rfl ?_
        obtain ⟨g3, e⟩ := gd_inv e
        refine Go.iald (kf_6_j 7 (kf_1_0 k0) (by decide)) (al_6_j 7 (kf_1_0 k0) (by decide) rfl) g3 (by decide +kernel) ?_
        refine Go.run (pc' := 36) [.iadd, .istore_n 1, .iinc 2 (1)] (ls' := [some (.ref a0), some (.int (x1 + (h (fld (fld a0 0) 7) x2.toNatClampNeg))), some (.int (x2 + (1 : Int32)))]) (st' := []) (by decide +kernel) rfl rfl ?_
        refine Go.goto (off := -32) (tgt := 4) (by decide +kernel) (by decide) ?_
        exact ih k0 e
def f_A_allOwed (h : HP) (a0 : Nat) : Option (Int32) :=
  f_A_allOwed_4 h 4096 a0 (0 : Int32) (0 : Int32)
set_option maxHeartbeats 1000000 in
theorem x_A_allOwed {l : Launch} {D : va_G} {ad : Nat → Nat} {aC : Nat → ClassId} (hf : l.flags = flags0) (hI : Inj ad) {h : HP} {a0 : Nat} {r : Int32} (k0 : knd a0 = 1) (e : f_A_allOwed h a0 = some r) : CT l D ad aC m_A_allOwed [.ref a0] h (.inl (some (.int r))) h := by
  refine CT.ofGo (by decide +kernel) rfl (Nat.le_of_ble_eq_true rfl) ?_
  unfold f_A_allOwed at e
  show Go l D ad aC (rmk m_A_allOwed) _ m_A_allOwed 0 [some (.ref a0), none, none] [] h 0 0
  refine Go.run (pc' := 4) [.iconst 0, .istore_n 1, .iconst 0, .istore_n 2] (ls' := [some (.ref a0), some (.int (0 : Int32)), some (.int (0 : Int32))]) (st' := []) (by decide +kernel) rfl rfl ?_
  exact x_A_allOwed_4 hf hI 4096 k0 e
def f_A_allPlugsHad_4 (h : HP)  : Nat → Nat → Int32 → Int32 → Option (Int32)
  | 0, _, _, _ => none
  | n + 1, a0, x1, x2 =>
    if (h (fld a0 0) 10) ≤ x2 then
      some x1
    else
      (f_W_plugsHad h (fld a0 1) x2).bind fun v2 =>
      f_A_allPlugsHad_4 h n a0 (x1 + v2) (x2 + (1 : Int32))
set_option maxHeartbeats 1000000 in
theorem x_A_allPlugsHad_4 {l : Launch} {D : va_G} {ad : Nat → Nat} {aC : Nat → ClassId} (hf : l.flags = flags0) (hI : Inj ad) {h : HP} : ∀ (n : Nat) {a0 : Nat} {x1 : Int32} {x2 : Int32} {r : Int32}, knd a0 = 1 → f_A_allPlugsHad_4 h n a0 x1 x2 = some r → Go l D ad aC (rmk m_A_allPlugsHad) (QM D ad aC m_A_allPlugsHad (.inl (some (.int r))) h) m_A_allPlugsHad 4 [some (.ref a0), some (.int x1), some (.int x2)] [] h 0 0 := by
  intro n
  induction n with
  | zero => intro a0 x1 x2 r k0 e; exact no_none e
  | succ n ih =>
    intro a0 x1 x2 r k0 e
    rw [f_A_allPlugsHad_4] at e
    refine Go.run (pc' := 6) [.iload_n 2, .aload_n 0] (ls' := [some (.ref a0), some (.int x1), some (.int x2)]) (st' := [.ref a0, .int x2]) (by decide +kernel) rfl rfl ?_
    refine Go.getR fo_A_12 k0 (by decide +kernel) ?_
    refine Go.getI fo_A_61 (kf_1_0 k0) (by decide +kernel) ?_
    refine Go.ic_ge (off := 20) (tgt := 32) (by decide +kernel) (by decide) (fun c1 => ?_) (fun c1 => ?_)
    · replace e := ite_t c1 e
      refine Go.run (pc' := 33) [.iload_n 1] (ls' := [some (.ref a0), some (.int x1), some (.int x2)]) (st' := [.int x1]) (by decide +kernel) rfl rfl ?_
      obtain rfl := Option.some.inj e
      exact Go.iret rfl (by decide) (by decide) (by decide +kernel)
    · replace e := ite_f c1 e
      refine Go.run (pc' := 17) [.iload_n 1, .aload_n 0] (ls' := [some (.ref a0), some (.int x1), some (.int x2)]) (st' := [.ref a0, .int x1]) (by decide +kernel) rfl rfl ?_
      refine Go.getR fo_A_21 k0 (by decide +kernel) ?_
      refine Go.run (pc' := 21) [.iload_n 2] (ls' := [some (.ref a0), some (.int x1), some (.int x2)]) (st' := [.int x2, .ref (fld a0 1), .int x1]) (by decide +kernel) rfl rfl ?_
      obtain ⟨v2, e3, e⟩ := bd_inv e
      refine Go.callV (M2 := m_W_plugsHad) (a := (fld a0 1)) (as := [.int x2]) (rest := [.int x1]) (v := some (.int v2)) (h1 := h) (x_W_plugsHad hf hI (kf_1_1 k0) e3) wv_A_141 (kf_1_1 k0) kc_4 (by decide +kernel) rfl rfl ⟨⟨Nat.le_of_ble_eq_true rfl, Nat.le_of_ble_eq_true rfl⟩, ⟨Nat.le_of_ble_eq_true rfl, Nat.le_of_ble_eq_true rfl⟩⟩ (Nat.le_of_ble_eq_true rfl) ?_
      show Go l D ad aC (rmk m_A_allPlugsHad) _ m_A_allPlugsHad 24 [some (.ref a0), some (.int x1), some (.int x2)] [.int v2, .int x1] h 0 0
      refine Go.run (pc' := 29) [.iadd, .istore_n 1, .iinc 2 (1)] (ls' := [some (.ref a0), some (.int (x1 + v2)), some (.int (x2 + (1 : Int32)))]) (st' := []) (by decide +kernel) rfl rfl ?_
      refine Go.goto (off := -25) (tgt := 4) (by decide +kernel) (by decide) ?_
      exact ih k0 e
def f_A_allPlugsHad (h : HP) (a0 : Nat) : Option (Int32) :=
  f_A_allPlugsHad_4 h 4096 a0 (0 : Int32) (0 : Int32)
set_option maxHeartbeats 1000000 in
theorem x_A_allPlugsHad {l : Launch} {D : va_G} {ad : Nat → Nat} {aC : Nat → ClassId} (hf : l.flags = flags0) (hI : Inj ad) {h : HP} {a0 : Nat} {r : Int32} (k0 : knd a0 = 1) (e : f_A_allPlugsHad h a0 = some r) : CT l D ad aC m_A_allPlugsHad [.ref a0] h (.inl (some (.int r))) h := by
  refine CT.ofGo (by decide +kernel) rfl (Nat.le_of_ble_eq_true rfl) ?_
  unfold f_A_allPlugsHad at e
  show Go l D ad aC (rmk m_A_allPlugsHad) _ m_A_allPlugsHad 0 [some (.ref a0), none, none] [] h 0 0
  refine Go.run (pc' := 4) [.iconst 0, .istore_n 1, .iconst 0, .istore_n 2] (ls' := [some (.ref a0), some (.int (0 : Int32)), some (.int (0 : Int32))]) (st' := []) (by decide +kernel) rfl rfl ?_
  exact x_A_allPlugsHad_4 hf hI 4096 k0 e
def f_A_allPlugsLacking_4 (h : HP)  : Nat → Nat → Int32 → Int32 → Option (Int32)
  | 0, _, _, _ => none
  | n + 1, a0, x1, x2 =>
    if (h (fld a0 0) 10) ≤ x2 then
      some x1
    else
      (f_A_plugsLacking h a0 x2).bind fun v2 =>
      f_A_allPlugsLacking_4 h n a0 (x1 + v2) (x2 + (1 : Int32))
set_option maxHeartbeats 1000000 in
theorem x_A_allPlugsLacking_4 {l : Launch} {D : va_G} {ad : Nat → Nat} {aC : Nat → ClassId} (hf : l.flags = flags0) (hI : Inj ad) {h : HP} : ∀ (n : Nat) {a0 : Nat} {x1 : Int32} {x2 : Int32} {r : Int32}, knd a0 = 1 → f_A_allPlugsLacking_4 h n a0 x1 x2 = some r → Go l D ad aC (rmk m_A_allPlugsLacking) (QM D ad aC m_A_allPlugsLacking (.inl (some (.int r))) h) m_A_allPlugsLacking 4 [some (.ref a0), some (.int x1), some (.int x2)] [] h 0 0 := by
  intro n
  induction n with
  | zero => intro a0 x1 x2 r k0 e; exact no_none e
  | succ n ih =>
    intro a0 x1 x2 r k0 e
    rw [f_A_allPlugsLacking_4] at e
    refine Go.run (pc' := 6) [.iload_n 2, .aload_n 0] (ls' := [some (.ref a0), some (.int x1), some (.int x2)]) (st' := [.ref a0, .int x2]) (by decide +kernel) rfl rfl ?_
    refine Go.getR fo_A_12 k0 (by decide +kernel) ?_
    refine Go.getI fo_A_61 (kf_1_0 k0) (by decide +kernel) ?_
    refine Go.ic_ge (off := 17) (tgt := 29) (by decide +kernel) (by decide) (fun c1 => ?_) (fun c1 => ?_)
    · replace e := ite_t c1 e
      refine Go.run (pc' := 30) [.iload_n 1] (ls' := [some (.ref a0), some (.int x1), some (.int x2)]) (st' := [.int x1]) (by decide +kernel) rfl rfl ?_
      obtain rfl := Option.some.inj e
      exact Go.iret rfl (by decide) (by decide) (by decide +kernel)
    · replace e := ite_f c1 e
      refine Go.run (pc' := 18) [.iload_n 1, .aload_n 0, .iload_n 2] (ls' := [some (.ref a0), some (.int x1), some (.int x2)]) (st' := [.int x2, .ref a0, .int x1]) (by decide +kernel) rfl rfl ?_
      obtain ⟨v2, e3, e⟩ := bd_inv e
      refine Go.callV (M2 := m_A_plugsLacking) (a := a0) (as := [.int x2]) (rest := [.int x1]) (v := some (.int v2)) (h1 := h) (x_A_plugsLacking hf hI k0 e3) wv_A_144 k0 kc_1 (by decide +kernel) rfl rfl ⟨⟨Nat.le_of_ble_eq_true rfl, Nat.le_of_ble_eq_true rfl⟩, ⟨Nat.le_of_ble_eq_true rfl, Nat.le_of_ble_eq_true rfl⟩⟩ (Nat.le_of_ble_eq_true rfl) ?_
      show Go l D ad aC (rmk m_A_allPlugsLacking) _ m_A_allPlugsLacking 21 [some (.ref a0), some (.int x1), some (.int x2)] [.int v2, .int x1] h 0 0
      refine Go.run (pc' := 26) [.iadd, .istore_n 1, .iinc 2 (1)] (ls' := [some (.ref a0), some (.int (x1 + v2)), some (.int (x2 + (1 : Int32)))]) (st' := []) (by decide +kernel) rfl rfl ?_
      refine Go.goto (off := -22) (tgt := 4) (by decide +kernel) (by decide) ?_
      exact ih k0 e
def f_A_allPlugsLacking (h : HP) (a0 : Nat) : Option (Int32) :=
  f_A_allPlugsLacking_4 h 4096 a0 (0 : Int32) (0 : Int32)
set_option maxHeartbeats 1000000 in
theorem x_A_allPlugsLacking {l : Launch} {D : va_G} {ad : Nat → Nat} {aC : Nat → ClassId} (hf : l.flags = flags0) (hI : Inj ad) {h : HP} {a0 : Nat} {r : Int32} (k0 : knd a0 = 1) (e : f_A_allPlugsLacking h a0 = some r) : CT l D ad aC m_A_allPlugsLacking [.ref a0] h (.inl (some (.int r))) h := by
  refine CT.ofGo (by decide +kernel) rfl (Nat.le_of_ble_eq_true rfl) ?_
  unfold f_A_allPlugsLacking at e
  show Go l D ad aC (rmk m_A_allPlugsLacking) _ m_A_allPlugsLacking 0 [some (.ref a0), none, none] [] h 0 0
  refine Go.run (pc' := 4) [.iconst 0, .istore_n 1, .iconst 0, .istore_n 2] (ls' := [some (.ref a0), some (.int (0 : Int32)), some (.int (0 : Int32))]) (st' := []) (by decide +kernel) rfl rfl ?_
  exact x_A_allPlugsLacking_4 hf hI 4096 k0 e
def f_A_neighbours_30 (h : HP) (k4_ : Nat → Int32 → Int32 → Int32 → Option (Int32)) (a0 : Nat) (x1 : Int32) (x3 : Int32) (s0 : Int32) (s1 : Int32) : Option (Int32) :=
  k4_ a0 x1 (s0 + s1) (x3 + (1 : Int32))
set_option maxHeartbeats 1000000 in
theorem x_A_neighbours_30 {l : Launch} {D : va_G} {ad : Nat → Nat} {aC : Nat → ClassId} (hf : l.flags = flags0) (hI : Inj ad) {h : HP} {k4_ : Nat → Int32 → Int32 → Int32 → Option (Int32)} (K4_ : ∀ {a0 : Nat} {x1 : Int32} {x2 : Int32} {x3 : Int32} {r : Int32}, knd a0 = 1 → k4_ a0 x1 x2 x3 = some r → Go l D ad aC (rmk m_A_neighbours) (QM D ad aC m_A_neighbours (.inl (some (.int r))) h) m_A_neighbours 4 [some (.ref a0), some (.int x1), some (.int x2), some (.int x3)] [] h 0 0) {a0 : Nat} {x1 : Int32} {x3 : Int32} {s0 : Int32} {s1 : Int32} {r : Int32} (k0 : knd a0 = 1) (e : f_A_neighbours_30 h k4_ a0 x1 x3 s0 s1 = some r) : Go l D ad aC (rmk m_A_neighbours) (QM D ad aC m_A_neighbours (.inl (some (.int r))) h) m_A_neighbours 30 [some (.ref a0), some (.int x1), none, some (.int x3)] [.int s1, .int s0] h 0 0 := by
  unfold f_A_neighbours_30 at e
  refine Go.run (pc' := 35) [.iadd, .istore_n 2, .iinc 3 (1)] (ls' := [some (.ref a0), some (.int x1), some (.int (s0 + s1)), some (.int (x3 + (1 : Int32)))]) (st' := []) (by decide +kernel) rfl rfl ?_
  refine Go.goto (off := -31) (tgt := 4) (by decide +kernel) (by decide) ?_
  exact K4_ k0 e
def f_A_neighbours_4 (h : HP)  : Nat → Nat → Int32 → Int32 → Int32 → Option (Int32)
  | 0, _, _, _, _ => none
  | n + 1, a0, x1, x2, x3 =>
    if (h (fld a0 0) 10) ≤ x3 then
      some x2
    else
      (f_A_areNeighbours h a0 x1 x3).bind fun v2 =>
      if v2 = 0 then
        f_A_neighbours_30 h (f_A_neighbours_4 h n) a0 x1 x3 x2 (0 : Int32)
      else
        f_A_neighbours_30 h (f_A_neighbours_4 h n) a0 x1 x3 x2 (1 : Int32)
set_option maxHeartbeats 1000000 in
theorem x_A_neighbours_4 {l : Launch} {D : va_G} {ad : Nat → Nat} {aC : Nat → ClassId} (hf : l.flags = flags0) (hI : Inj ad) {h : HP} : ∀ (n : Nat) {a0 : Nat} {x1 : Int32} {x2 : Int32} {x3 : Int32} {r : Int32}, knd a0 = 1 → f_A_neighbours_4 h n a0 x1 x2 x3 = some r → Go l D ad aC (rmk m_A_neighbours) (QM D ad aC m_A_neighbours (.inl (some (.int r))) h) m_A_neighbours 4 [some (.ref a0), some (.int x1), some (.int x2), some (.int x3)] [] h 0 0 := by
  intro n
  induction n with
  | zero => intro a0 x1 x2 x3 r k0 e; exact no_none e
  | succ n ih =>
    intro a0 x1 x2 x3 r k0 e
    rw [f_A_neighbours_4] at e
    refine Go.run (pc' := 6) [.iload_n 3, .aload_n 0] (ls' := [some (.ref a0), some (.int x1), some (.int x2), some (.int x3)]) (st' := [.ref a0, .int x3]) (by decide +kernel) rfl rfl ?_
    refine Go.getR fo_A_12 k0 (by decide +kernel) ?_
    refine Go.getI fo_A_61 (kf_1_0 k0) (by decide +kernel) ?_
    refine Go.ic_ge (off := 26) (tgt := 38) (by decide +kernel) (by decide) (fun c1 => ?_) (fun c1 => ?_)
    · replace e := ite_t c1 e
      refine Go.run (pc' := 39) [.iload_n 2] (ls' := [some (.ref a0), some (.int x1), some (.int x2), some (.int x3)]) (st' := [.int x2]) (by decide +kernel) rfl rfl ?_
      obtain rfl := Option.some.inj e
      exact Go.iret rfl (by decide) (by decide) (by decide +kernel)
    · replace e := ite_f c1 e
      refine Go.run (pc' := 19) [.iload_n 2, .aload_n 0, .iload_n 1, .iload_n 3] (ls' := [some (.ref a0), some (.int x1), some (.int x2), some (.int x3)]) (st' := [.int x3, .int x1, .ref a0, .int x2]) (by decide +kernel) rfl rfl ?_
      obtain ⟨v2, e3, e⟩ := bd_inv e
      refine Go.callV (M2 := m_A_areNeighbours) (a := a0) (as := [.int x1, .int x3]) (rest := [.int x2]) (v := some (.int v2)) (h1 := h) (x_A_areNeighbours hf hI k0 e3) wv_A_147 k0 kc_1 (by decide +kernel) rfl rfl ⟨⟨Nat.le_of_ble_eq_true rfl, Nat.le_of_ble_eq_true rfl⟩, ⟨Nat.le_of_ble_eq_true rfl, Nat.le_of_ble_eq_true rfl⟩⟩ (Nat.le_of_ble_eq_true rfl) ?_
      show Go l D ad aC (rmk m_A_neighbours) _ m_A_neighbours 22 [some (.ref a0), some (.int x1), some (.int x2), some (.int x3)] [.int v2, .int x2] h 0 0
      refine Go.if_eq (off := 7) (tgt := 29) (by decide +kernel) (by decide) (fun c4 => ?_) (fun c4 => ?_)
      · replace e := ite_t c4 e
        refine Go.run (pc' := 30) [.iconst 0] (ls' := [some (.ref a0), some (.int x1), some (.int x2), some (.int x3)]) (st' := [.int (0 : Int32), .int x2]) (by decide +kernel) rfl rfl ?_
        refine Go.wk' (wks (wks (wkn (wks wk0)))) ?_
        exact x_A_neighbours_30 hf hI (fun kk0 e => ih kk0 e) k0 e
      · replace e := ite_f c4 e
        refine Go.run (pc' := 26) [.iconst 1] (ls' := [some (.ref a0), some (.int x1), some (.int x2), some (.int x3)]) (st' := [.int (1 : Int32), .int x2]) (by decide +kernel) rfl rfl ?_
        refine Go.goto (off := 4) (tgt := 30) (by decide +kernel) (by decide) ?_
        refine Go.wk' (wks (wks (wkn (wks wk0)))) ?_
        exact x_A_neighbours_30 hf hI (fun kk0 e => ih kk0 e) k0 e
def f_A_neighbours (h : HP) (a0 : Nat) (x1 : Int32) : Option (Int32) :=
  f_A_neighbours_4 h 4096 a0 x1 (0 : Int32) (0 : Int32)
set_option maxHeartbeats 1000000 in
theorem x_A_neighbours {l : Launch} {D : va_G} {ad : Nat → Nat} {aC : Nat → ClassId} (hf : l.flags = flags0) (hI : Inj ad) {h : HP} {a0 : Nat} {x1 : Int32} {r : Int32} (k0 : knd a0 = 1) (e : f_A_neighbours h a0 x1 = some r) : CT l D ad aC m_A_neighbours [.ref a0, .int x1] h (.inl (some (.int r))) h := by
  refine CT.ofGo (by decide +kernel) rfl (Nat.le_of_ble_eq_true rfl) ?_
  unfold f_A_neighbours at e
  show Go l D ad aC (rmk m_A_neighbours) _ m_A_neighbours 0 [some (.ref a0), some (.int x1), none, none] [] h 0 0
  refine Go.run (pc' := 4) [.iconst 0, .istore_n 2, .iconst 0, .istore_n 3] (ls' := [some (.ref a0), some (.int x1), some (.int (0 : Int32)), some (.int (0 : Int32))]) (st' := []) (by decide +kernel) rfl rfl ?_
  exact x_A_neighbours_4 hf hI 4096 k0 e
def f_A_rivalPairs_4 (h : HP)  : Nat → Nat → Int32 → Int32 → Option (Int32)
  | 0, _, _, _ => none
  | n + 1, a0, x1, x2 =>
    if (h (fld a0 0) 10) ≤ x2 then
      some (x1 / (2 : Int32))
    else
      (f_A_rivals h a0 x2).bind fun v2 =>
      f_A_rivalPairs_4 h n a0 (x1 + v2) (x2 + (1 : Int32))
set_option maxHeartbeats 1000000 in
theorem x_A_rivalPairs_4 {l : Launch} {D : va_G} {ad : Nat → Nat} {aC : Nat → ClassId} (hf : l.flags = flags0) (hI : Inj ad) {h : HP} : ∀ (n : Nat) {a0 : Nat} {x1 : Int32} {x2 : Int32} {r : Int32}, knd a0 = 1 → f_A_rivalPairs_4 h n a0 x1 x2 = some r → Go l D ad aC (rmk m_A_rivalPairs) (QM D ad aC m_A_rivalPairs (.inl (some (.int r))) h) m_A_rivalPairs 4 [some (.ref a0), some (.int x1), some (.int x2)] [] h 0 0 := by
  intro n
  induction n with
  | zero => intro a0 x1 x2 r k0 e; exact no_none e
  | succ n ih =>
    intro a0 x1 x2 r k0 e
    rw [f_A_rivalPairs_4] at e
    refine Go.run (pc' := 6) [.iload_n 2, .aload_n 0] (ls' := [some (.ref a0), some (.int x1), some (.int x2)]) (st' := [.ref a0, .int x2]) (by decide +kernel) rfl rfl ?_
    refine Go.getR fo_A_12 k0 (by decide +kernel) ?_
    refine Go.getI fo_A_61 (kf_1_0 k0) (by decide +kernel) ?_
    refine Go.ic_ge (off := 17) (tgt := 29) (by decide +kernel) (by decide) (fun c1 => ?_) (fun c1 => ?_)
    · replace e := ite_t c1 e
      refine Go.run (pc' := 32) [.iload_n 1, .iconst 2, .idiv] (ls' := [some (.ref a0), some (.int x1), some (.int x2)]) (st' := [.int (x1 / (2 : Int32))]) (by decide +kernel) rfl rfl ?_
      obtain rfl := Option.some.inj e
      exact Go.iret rfl (by decide) (by decide) (by decide +kernel)
    · replace e := ite_f c1 e
      refine Go.run (pc' := 18) [.iload_n 1, .aload_n 0, .iload_n 2] (ls' := [some (.ref a0), some (.int x1), some (.int x2)]) (st' := [.int x2, .ref a0, .int x1]) (by decide +kernel) rfl rfl ?_
      obtain ⟨v2, e3, e⟩ := bd_inv e
      refine Go.callV (M2 := m_A_rivals) (a := a0) (as := [.int x2]) (rest := [.int x1]) (v := some (.int v2)) (h1 := h) (x_A_rivals hf hI k0 e3) wv_A_150 k0 kc_1 (by decide +kernel) rfl rfl ⟨⟨Nat.le_of_ble_eq_true rfl, Nat.le_of_ble_eq_true rfl⟩, ⟨Nat.le_of_ble_eq_true rfl, Nat.le_of_ble_eq_true rfl⟩⟩ (Nat.le_of_ble_eq_true rfl) ?_
      show Go l D ad aC (rmk m_A_rivalPairs) _ m_A_rivalPairs 21 [some (.ref a0), some (.int x1), some (.int x2)] [.int v2, .int x1] h 0 0
      refine Go.run (pc' := 26) [.iadd, .istore_n 1, .iinc 2 (1)] (ls' := [some (.ref a0), some (.int (x1 + v2)), some (.int (x2 + (1 : Int32)))]) (st' := []) (by decide +kernel) rfl rfl ?_
      refine Go.goto (off := -22) (tgt := 4) (by decide +kernel) (by decide) ?_
      exact ih k0 e
def f_A_rivalPairs (h : HP) (a0 : Nat) : Option (Int32) :=
  f_A_rivalPairs_4 h 4096 a0 (0 : Int32) (0 : Int32)
set_option maxHeartbeats 1000000 in
theorem x_A_rivalPairs {l : Launch} {D : va_G} {ad : Nat → Nat} {aC : Nat → ClassId} (hf : l.flags = flags0) (hI : Inj ad) {h : HP} {a0 : Nat} {r : Int32} (k0 : knd a0 = 1) (e : f_A_rivalPairs h a0 = some r) : CT l D ad aC m_A_rivalPairs [.ref a0] h (.inl (some (.int r))) h := by
  refine CT.ofGo (by decide +kernel) rfl (Nat.le_of_ble_eq_true rfl) ?_
  unfold f_A_rivalPairs at e
  show Go l D ad aC (rmk m_A_rivalPairs) _ m_A_rivalPairs 0 [some (.ref a0), none, none] [] h 0 0
  refine Go.run (pc' := 4) [.iconst 0, .istore_n 1, .iconst 0, .istore_n 2] (ls' := [some (.ref a0), some (.int (0 : Int32)), some (.int (0 : Int32))]) (st' := []) (by decide +kernel) rfl rfl ?_
  exact x_A_rivalPairs_4 hf hI 4096 k0 e
def f_A_rents_4 (h : HP)  : Nat → Nat → Int32 → Int32 → Option (Int32)
  | 0, _, _, _ => none
  | n + 1, a0, x1, x2 =>
    if (h (fld a0 0) 10) ≤ x2 then
      some x1
    else
      (f_A_rentOf h a0 x2).bind fun v2 =>
      f_A_rents_4 h n a0 (x1 + v2) (x2 + (1 : Int32))
set_option maxHeartbeats 1000000 in
theorem x_A_rents_4 {l : Launch} {D : va_G} {ad : Nat → Nat} {aC : Nat → ClassId} (hf : l.flags = flags0) (hI : Inj ad) {h : HP} : ∀ (n : Nat) {a0 : Nat} {x1 : Int32} {x2 : Int32} {r : Int32}, knd a0 = 1 → f_A_rents_4 h n a0 x1 x2 = some r → Go l D ad aC (rmk m_A_rents) (QM D ad aC m_A_rents (.inl (some (.int r))) h) m_A_rents 4 [some (.ref a0), some (.int x1), some (.int x2)] [] h 0 0 := by
  intro n
  induction n with
  | zero => intro a0 x1 x2 r k0 e; exact no_none e
  | succ n ih =>
    intro a0 x1 x2 r k0 e
    rw [f_A_rents_4] at e
    refine Go.run (pc' := 6) [.iload_n 2, .aload_n 0] (ls' := [some (.ref a0), some (.int x1), some (.int x2)]) (st' := [.ref a0, .int x2]) (by decide +kernel) rfl rfl ?_
    refine Go.getR fo_A_12 k0 (by decide +kernel) ?_
    refine Go.getI fo_A_61 (kf_1_0 k0) (by decide +kernel) ?_
    refine Go.ic_ge (off := 17) (tgt := 29) (by decide +kernel) (by decide) (fun c1 => ?_) (fun c1 => ?_)
    · replace e := ite_t c1 e
      refine Go.run (pc' := 30) [.iload_n 1] (ls' := [some (.ref a0), some (.int x1), some (.int x2)]) (st' := [.int x1]) (by decide +kernel) rfl rfl ?_
      obtain rfl := Option.some.inj e
      exact Go.iret rfl (by decide) (by decide) (by decide +kernel)
    · replace e := ite_f c1 e
      refine Go.run (pc' := 18) [.iload_n 1, .aload_n 0, .iload_n 2] (ls' := [some (.ref a0), some (.int x1), some (.int x2)]) (st' := [.int x2, .ref a0, .int x1]) (by decide +kernel) rfl rfl ?_
      obtain ⟨v2, e3, e⟩ := bd_inv e
      refine Go.callV (M2 := m_A_rentOf) (a := a0) (as := [.int x2]) (rest := [.int x1]) (v := some (.int v2)) (h1 := h) (x_A_rentOf hf hI k0 e3) wv_A_99 k0 kc_1 (by decide +kernel) rfl rfl ⟨⟨Nat.le_of_ble_eq_true rfl, Nat.le_of_ble_eq_true rfl⟩, ⟨Nat.le_of_ble_eq_true rfl, Nat.le_of_ble_eq_true rfl⟩⟩ (Nat.le_of_ble_eq_true rfl) ?_
      show Go l D ad aC (rmk m_A_rents) _ m_A_rents 21 [some (.ref a0), some (.int x1), some (.int x2)] [.int v2, .int x1] h 0 0
      refine Go.run (pc' := 26) [.iadd, .istore_n 1, .iinc 2 (1)] (ls' := [some (.ref a0), some (.int (x1 + v2)), some (.int (x2 + (1 : Int32)))]) (st' := []) (by decide +kernel) rfl rfl ?_
      refine Go.goto (off := -22) (tgt := 4) (by decide +kernel) (by decide) ?_
      exact ih k0 e
def f_A_rents (h : HP) (a0 : Nat) : Option (Int32) :=
  f_A_rents_4 h 4096 a0 (0 : Int32) (0 : Int32)
set_option maxHeartbeats 1000000 in
theorem x_A_rents {l : Launch} {D : va_G} {ad : Nat → Nat} {aC : Nat → ClassId} (hf : l.flags = flags0) (hI : Inj ad) {h : HP} {a0 : Nat} {r : Int32} (k0 : knd a0 = 1) (e : f_A_rents h a0 = some r) : CT l D ad aC m_A_rents [.ref a0] h (.inl (some (.int r))) h := by
  refine CT.ofGo (by decide +kernel) rfl (Nat.le_of_ble_eq_true rfl) ?_
  unfold f_A_rents at e
  show Go l D ad aC (rmk m_A_rents) _ m_A_rents 0 [some (.ref a0), none, none] [] h 0 0
  refine Go.run (pc' := 4) [.iconst 0, .istore_n 1, .iconst 0, .istore_n 2] (ls' := [some (.ref a0), some (.int (0 : Int32)), some (.int (0 : Int32))]) (st' := []) (by decide +kernel) rfl rfl ?_
  exact x_A_rents_4 hf hI 4096 k0 e
def f_A_whoStandsAt_59 (h : HP) (k2_ : Nat → Int32 → Int32 → Int32 → Option (Int32)) (a0 : Nat) (x1 : Int32) (x2 : Int32) (x3 : Int32) : Option (Int32) :=
  k2_ a0 x1 x2 (x3 + (1 : Int32))
set_option maxHeartbeats 1000000 in
theorem x_A_whoStandsAt_59 {l : Launch} {D : va_G} {ad : Nat → Nat} {aC : Nat → ClassId} (hf : l.flags = flags0) (hI : Inj ad) {h : HP} {k2_ : Nat → Int32 → Int32 → Int32 → Option (Int32)} (K2_ : ∀ {a0 : Nat} {x1 : Int32} {x2 : Int32} {x3 : Int32} {r : Int32}, knd a0 = 1 → k2_ a0 x1 x2 x3 = some r → Go l D ad aC (rmk m_A_whoStandsAt) (QM D ad aC m_A_whoStandsAt (.inl (some (.int r))) h) m_A_whoStandsAt 2 [some (.ref a0), some (.int x1), some (.int x2), some (.int x3)] [] h 0 0) {a0 : Nat} {x1 : Int32} {x2 : Int32} {x3 : Int32} {r : Int32} (k0 : knd a0 = 1) (e : f_A_whoStandsAt_59 h k2_ a0 x1 x2 x3 = some r) : Go l D ad aC (rmk m_A_whoStandsAt) (QM D ad aC m_A_whoStandsAt (.inl (some (.int r))) h) m_A_whoStandsAt 59 [some (.ref a0), some (.int x1), some (.int x2), some (.int x3)] [] h 0 0 := by
  unfold f_A_whoStandsAt_59 at e
  refine Go.run (pc' := 62) [.iinc 3 (1)] (ls' := [some (.ref a0), some (.int x1), some (.int x2), some (.int (x3 + (1 : Int32)))]) (st' := []) (by decide +kernel) rfl rfl ?_
  refine Go.goto (off := -60) (tgt := 2) (by decide +kernel) (by decide) ?_
  exact K2_ k0 e
def f_A_whoStandsAt_2 (h : HP)  : Nat → Nat → Int32 → Int32 → Int32 → Option (Int32)
  | 0, _, _, _, _ => none
  | n + 1, a0, x1, x2, x3 =>
    if (h (fld a0 0) 10) ≤ x3 then
      some (-1 : Int32)
    else
      if (10 : Int32) ≤ x3 then
        some (-1 : Int32)
      else
        (f_S_standsAt h (fld a0 0) x3 x1).bind fun v3 =>
        if v3 = 0 then
          f_A_whoStandsAt_59 h (f_A_whoStandsAt_2 h n) a0 x1 x2 x3
        else
          if ib x3 10 = true then
          if ib x3 10 = true then
          (f_A_overlap h x2 (1 : Int32) (h (fld (fld a0 0) 6) x3.toNatClampNeg) (h (fld (fld a0 0) 3) x3.toNatClampNeg)).bind fun v8 =>
          if v8 = 0 then
            f_A_whoStandsAt_59 h (f_A_whoStandsAt_2 h n) a0 x1 x2 x3
          else
            some x3
          else none
          else none
set_option maxHeartbeats 1000000 in
theorem x_A_whoStandsAt_2 {l : Launch} {D : va_G} {ad : Nat → Nat} {aC : Nat → ClassId} (hf : l.flags = flags0) (hI : Inj ad) {h : HP} : ∀ (n : Nat) {a0 : Nat} {x1 : Int32} {x2 : Int32} {x3 : Int32} {r : Int32}, knd a0 = 1 → f_A_whoStandsAt_2 h n a0 x1 x2 x3 = some r → Go l D ad aC (rmk m_A_whoStandsAt) (QM D ad aC m_A_whoStandsAt (.inl (some (.int r))) h) m_A_whoStandsAt 2 [some (.ref a0), some (.int x1), some (.int x2), some (.int x3)] [] h 0 0 := by
  intro n
  induction n with
  | zero => intro a0 x1 x2 x3 r k0 e; exact no_none e
  | succ n ih =>
    intro a0 x1 x2 x3 r k0 e
    rw [f_A_whoStandsAt_2] at e
    refine Go.run (pc' := 4) [.iload_n 3, .aload_n 0] (ls' := [some (.ref a0), some (.int x1), some (.int x2), some (.int x3)]) (st' := [.ref a0, .int x3]) (by decide +kernel) rfl rfl ?_
    refine Go.getR fo_A_12 k0 (by decide +kernel) ?_
    refine Go.getI fo_A_61 (kf_1_0 k0) (by decide +kernel) ?_
    refine Go.ic_ge (off := 55) (tgt := 65) (by decide +kernel) (by decide) (fun c1 => ?_) (fun c1 => ?_)
    · replace e := ite_t c1 e
      refine Go.run (pc' := 66) [.iconst (-1)] (ls' := [some (.ref a0), some (.int x1), some (.int x2), some (.int x3)]) (st' := [.int (-1 : Int32)]) (by decide +kernel) rfl rfl ?_
      obtain rfl := Option.some.inj e
      exact Go.iret rfl (by decide) (by decide) (by decide +kernel)
    · replace e := ite_f c1 e
      refine Go.run (pc' := 16) [.iload_n 3, .bipush (10)] (ls' := [some (.ref a0), some (.int x1), some (.int x2), some (.int x3)]) (st' := [.int (10 : Int32), .int x3]) (by decide +kernel) rfl rfl ?_
      refine Go.ic_ge (off := 49) (tgt := 65) (by decide +kernel) (by decide) (fun c2 => ?_) (fun c2 => ?_)
      · replace e := ite_t c2 e
        refine Go.run (pc' := 66) [.iconst (-1)] (ls' := [some (.ref a0), some (.int x1), some (.int x2), some (.int x3)]) (st' := [.int (-1 : Int32)]) (by decide +kernel) rfl rfl ?_
        obtain rfl := Option.some.inj e
        exact Go.iret rfl (by decide) (by decide) (by decide +kernel)
      · replace e := ite_f c2 e
        refine Go.run (pc' := 20) [.aload_n 0] (ls' := [some (.ref a0), some (.int x1), some (.int x2), some (.int x3)]) (st' := [.ref a0]) (by decide +kernel) rfl rfl ?_
        refine Go.getR fo_A_12 k0 (by decide +kernel) ?_
        refine Go.run (pc' := 25) [.iload_n 3, .iload_n 1] (ls' := [some (.ref a0), some (.int x1), some (.int x2), some (.int x3)]) (st' := [.int x1, .int x3, .ref (fld a0 0)]) (by decide +kernel) rfl rfl ?_
        obtain ⟨v3, e4, e⟩ := bd_inv e
        refine Go.callV (M2 := m_S_standsAt) (a := (fld a0 0)) (as := [.int x3, .int x1]) (rest := []) (v := some (.int v3)) (h1 := h) (x_S_standsAt hf hI (kf_1_0 k0) e4) wv_A_138 (kf_1_0 k0) kc_6 (by decide +kernel) rfl rfl ⟨⟨Nat.le_of_ble_eq_true rfl, Nat.le_of_ble_eq_true rfl⟩, ⟨Nat.le_of_ble_eq_true rfl, Nat.le_of_ble_eq_true rfl⟩⟩ (Nat.le_of_ble_eq_true rfl) ?_
        show Go l D ad aC (rmk m_A_whoStandsAt) _ m_A_whoStandsAt 28 [some (.ref a0), some (.int x1), some (.int x2), some (.int x3)] [.int v3] h 0 0
        refine Go.if_eq (off := 31) (tgt := 59) (by decide +kernel) (by decide) (fun c5 => ?_) (fun c5 => ?_)
        · replace e := ite_t c5 e
          exact x_A_whoStandsAt_59 hf hI (fun kk0 e => ih kk0 e) k0 e
        · replace e := ite_f c5 e
          refine Go.run (pc' := 34) [.iload_n 2, .iconst 1, .aload_n 0] (ls' := [some (.ref a0), some (.int x1), some (.int x2), some (.int x3)]) (st' := [.ref a0, .int (1 : Int32), .int x2]) (by decide +kernel) rfl rfl ?_
          refine Go.getR fo_A_12 k0 (by decide +kernel) ?_
          refine Go.getR fo_A_79 (kf_1_0 k0) (by decide +kernel) ?_
          refine Go.run (pc' := 41) [.iload_n 3] (ls' := [some (.ref a0), some (.int x1), some (.int x2), some (.int x3)]) (st' := [.int x3, .ref (fld (fld a0 0) 6), .int (1 : Int32), .int x2]) (by decide +kernel) rfl rfl ?_
          obtain ⟨g6, e⟩ := gd_inv e
          refine Go.iald (kf_6_j 6 (kf_1_0 k0) (by decide)) (al_6_j 6 (kf_1_0 k0) (by decide) rfl) g6 (by decide +kernel) ?_
          refine Go.run (pc' := 43) [.aload_n 0] (ls' := [some (.ref a0), some (.int x1), some (.int x2), some (.int x3)]) (st' := [.ref a0, .int (h (fld (fld a0 0) 6) x3.toNatClampNeg), .int (1 : Int32), .int x2]) (by decide +kernel) rfl rfl ?_
          refine Go.getR fo_A_12 k0 (by decide +kernel) ?_
          refine Go.getR fo_A_70 (kf_1_0 k0) (by decide +kernel) ?_
          refine Go.run (pc' := 50) [.iload_n 3] (ls' := [some (.ref a0), some (.int x1), some (.int x2), some (.int x3)]) (st' := [.int x3, .ref (fld (fld a0 0) 3), .int (h (fld (fld a0 0) 6) x3.toNatClampNeg), .int (1 : Int32), .int x2]) (by decide +kernel) rfl rfl ?_
          obtain ⟨g7, e⟩ := gd_inv e
          refine Go.iald (kf_6_j 3 (kf_1_0 k0) (by decide)) (al_6_j 3 (kf_1_0 k0) (by decide) rfl) g7 (by decide +kernel) ?_
          obtain ⟨v8, e9, e⟩ := bd_inv e
          refine Go.callS (M2 := m_A_overlap) (as := [.int x2, .int (1 : Int32), .int (h (fld (fld a0 0) 6) x3.toNatClampNeg), .int (h (fld (fld a0 0) 3) x3.toNatClampNeg)]) (rest := []) (v := some (.int v8)) (h1 := h) (x_A_overlap hf hI  e9) ws_A_134 (by decide +kernel) rfl rfl ⟨⟨Nat.le_of_ble_eq_true rfl, Nat.le_of_ble_eq_true rfl⟩, ⟨Nat.le_of_ble_eq_true rfl, Nat.le_of_ble_eq_true rfl⟩⟩ (Nat.le_of_ble_eq_true rfl) ?_
          show Go l D ad aC (rmk m_A_whoStandsAt) _ m_A_whoStandsAt 54 [some (.ref a0), some (.int x1), some (.int x2), some (.int x3)] [.int v8] h 0 0
          refine Go.if_eq (off := 5) (tgt := 59) (by decide +kernel) (by decide) (fun c10 => ?_) (fun c10 => ?_)
          · replace e := ite_t c10 e
            exact x_A_whoStandsAt_59 hf hI (fun kk0 e => ih kk0 e) k0 e
          · replace e := ite_f c10 e
            refine Go.run (pc' := 58) [.iload_n 3] (ls' := [some (.ref a0), some (.int x1), some (.int x2), some (.int x3)]) (st' := [.int x3]) (by decide +kernel) rfl rfl ?_
            obtain rfl := Option.some.inj e
            exact Go.iret rfl (by decide) (by decide) (by decide +kernel)
def f_A_whoStandsAt (h : HP) (a0 : Nat) (x1 : Int32) (x2 : Int32) : Option (Int32) :=
  f_A_whoStandsAt_2 h 4096 a0 x1 x2 (0 : Int32)
set_option maxHeartbeats 1000000 in
theorem x_A_whoStandsAt {l : Launch} {D : va_G} {ad : Nat → Nat} {aC : Nat → ClassId} (hf : l.flags = flags0) (hI : Inj ad) {h : HP} {a0 : Nat} {x1 : Int32} {x2 : Int32} {r : Int32} (k0 : knd a0 = 1) (e : f_A_whoStandsAt h a0 x1 x2 = some r) : CT l D ad aC m_A_whoStandsAt [.ref a0, .int x1, .int x2] h (.inl (some (.int r))) h := by
  refine CT.ofGo (by decide +kernel) rfl (Nat.le_of_ble_eq_true rfl) ?_
  unfold f_A_whoStandsAt at e
  show Go l D ad aC (rmk m_A_whoStandsAt) _ m_A_whoStandsAt 0 [some (.ref a0), some (.int x1), some (.int x2), none] [] h 0 0
  refine Go.run (pc' := 2) [.iconst 0, .istore_n 3] (ls' := [some (.ref a0), some (.int x1), some (.int x2), some (.int (0 : Int32))]) (st' := []) (by decide +kernel) rfl rfl ?_
  exact x_A_whoStandsAt_2 hf hI 4096 k0 e
def f_A_standingAt_33 (h : HP) (k4_ : Nat → Int32 → Int32 → Int32 → Option (Int32)) (a0 : Nat) (x1 : Int32) (x3 : Int32) (s0 : Int32) (s1 : Int32) : Option (Int32) :=
  k4_ a0 x1 (s0 + s1) (x3 + (1 : Int32))
set_option maxHeartbeats 1000000 in
theorem x_A_standingAt_33 {l : Launch} {D : va_G} {ad : Nat → Nat} {aC : Nat → ClassId} (hf : l.flags = flags0) (hI : Inj ad) {h : HP} {k4_ : Nat → Int32 → Int32 → Int32 → Option (Int32)} (K4_ : ∀ {a0 : Nat} {x1 : Int32} {x2 : Int32} {x3 : Int32} {r : Int32}, knd a0 = 1 → k4_ a0 x1 x2 x3 = some r → Go l D ad aC (rmk m_A_standingAt) (QM D ad aC m_A_standingAt (.inl (some (.int r))) h) m_A_standingAt 4 [some (.ref a0), some (.int x1), some (.int x2), some (.int x3)] [] h 0 0) {a0 : Nat} {x1 : Int32} {x3 : Int32} {s0 : Int32} {s1 : Int32} {r : Int32} (k0 : knd a0 = 1) (e : f_A_standingAt_33 h k4_ a0 x1 x3 s0 s1 = some r) : Go l D ad aC (rmk m_A_standingAt) (QM D ad aC m_A_standingAt (.inl (some (.int r))) h) m_A_standingAt 33 [some (.ref a0), some (.int x1), none, some (.int x3)] [.int s1, .int s0] h 0 0 := by
  unfold f_A_standingAt_33 at e
  refine Go.run (pc' := 38) [.iadd, .istore_n 2, .iinc 3 (1)] (ls' := [some (.ref a0), some (.int x1), some (.int (s0 + s1)), some (.int (x3 + (1 : Int32)))]) (st' := []) (by decide +kernel) rfl rfl ?_
  refine Go.goto (off := -34) (tgt := 4) (by decide +kernel) (by decide) ?_
  exact K4_ k0 e
def f_A_standingAt_4 (h : HP)  : Nat → Nat → Int32 → Int32 → Int32 → Option (Int32)
  | 0, _, _, _, _ => none
  | n + 1, a0, x1, x2, x3 =>
    if (h (fld a0 0) 10) ≤ x3 then
      some x2
    else
      (f_S_standsAt h (fld a0 0) x3 x1).bind fun v2 =>
      if v2 = 0 then
        f_A_standingAt_33 h (f_A_standingAt_4 h n) a0 x1 x3 x2 (0 : Int32)
      else
        f_A_standingAt_33 h (f_A_standingAt_4 h n) a0 x1 x3 x2 (1 : Int32)
set_option maxHeartbeats 1000000 in
theorem x_A_standingAt_4 {l : Launch} {D : va_G} {ad : Nat → Nat} {aC : Nat → ClassId} (hf : l.flags = flags0) (hI : Inj ad) {h : HP} : ∀ (n : Nat) {a0 : Nat} {x1 : Int32} {x2 : Int32} {x3 : Int32} {r : Int32}, knd a0 = 1 → f_A_standingAt_4 h n a0 x1 x2 x3 = some r → Go l D ad aC (rmk m_A_standingAt) (QM D ad aC m_A_standingAt (.inl (some (.int r))) h) m_A_standingAt 4 [some (.ref a0), some (.int x1), some (.int x2), some (.int x3)] [] h 0 0 := by
  intro n
  induction n with
  | zero => intro a0 x1 x2 x3 r k0 e; exact no_none e
  | succ n ih =>
    intro a0 x1 x2 x3 r k0 e
    rw [f_A_standingAt_4] at e
    refine Go.run (pc' := 6) [.iload_n 3, .aload_n 0] (ls' := [some (.ref a0), some (.int x1), some (.int x2), some (.int x3)]) (st' := [.ref a0, .int x3]) (by decide +kernel) rfl rfl ?_
    refine Go.getR fo_A_12 k0 (by decide +kernel) ?_
    refine Go.getI fo_A_61 (kf_1_0 k0) (by decide +kernel) ?_
    refine Go.ic_ge (off := 29) (tgt := 41) (by decide +kernel) (by decide) (fun c1 => ?_) (fun c1 => ?_)
    · replace e := ite_t c1 e
      refine Go.run (pc' := 42) [.iload_n 2] (ls' := [some (.ref a0), some (.int x1), some (.int x2), some (.int x3)]) (st' := [.int x2]) (by decide +kernel) rfl rfl ?_
      obtain rfl := Option.some.inj e
      exact Go.iret rfl (by decide) (by decide) (by decide +kernel)
    · replace e := ite_f c1 e
      refine Go.run (pc' := 17) [.iload_n 2, .aload_n 0] (ls' := [some (.ref a0), some (.int x1), some (.int x2), some (.int x3)]) (st' := [.ref a0, .int x2]) (by decide +kernel) rfl rfl ?_
      refine Go.getR fo_A_12 k0 (by decide +kernel) ?_
      refine Go.run (pc' := 22) [.iload_n 3, .iload_n 1] (ls' := [some (.ref a0), some (.int x1), some (.int x2), some (.int x3)]) (st' := [.int x1, .int x3, .ref (fld a0 0), .int x2]) (by decide +kernel) rfl rfl ?_
      obtain ⟨v2, e3, e⟩ := bd_inv e
      refine Go.callV (M2 := m_S_standsAt) (a := (fld a0 0)) (as := [.int x3, .int x1]) (rest := [.int x2]) (v := some (.int v2)) (h1 := h) (x_S_standsAt hf hI (kf_1_0 k0) e3) wv_A_138 (kf_1_0 k0) kc_6 (by decide +kernel) rfl rfl ⟨⟨Nat.le_of_ble_eq_true rfl, Nat.le_of_ble_eq_true rfl⟩, ⟨Nat.le_of_ble_eq_true rfl, Nat.le_of_ble_eq_true rfl⟩⟩ (Nat.le_of_ble_eq_true rfl) ?_
      show Go l D ad aC (rmk m_A_standingAt) _ m_A_standingAt 25 [some (.ref a0), some (.int x1), some (.int x2), some (.int x3)] [.int v2, .int x2] h 0 0
      refine Go.if_eq (off := 7) (tgt := 32) (by decide +kernel) (by decide) (fun c4 => ?_) (fun c4 => ?_)
      · replace e := ite_t c4 e
        refine Go.run (pc' := 33) [.iconst 0] (ls' := [some (.ref a0), some (.int x1), some (.int x2), some (.int x3)]) (st' := [.int (0 : Int32), .int x2]) (by decide +kernel) rfl rfl ?_
        refine Go.wk' (wks (wks (wkn (wks wk0)))) ?_
        exact x_A_standingAt_33 hf hI (fun kk0 e => ih kk0 e) k0 e
      · replace e := ite_f c4 e
        refine Go.run (pc' := 29) [.iconst 1] (ls' := [some (.ref a0), some (.int x1), some (.int x2), some (.int x3)]) (st' := [.int (1 : Int32), .int x2]) (by decide +kernel) rfl rfl ?_
        refine Go.goto (off := 4) (tgt := 33) (by decide +kernel) (by decide) ?_
        refine Go.wk' (wks (wks (wkn (wks wk0)))) ?_
        exact x_A_standingAt_33 hf hI (fun kk0 e => ih kk0 e) k0 e
def f_A_standingAt (h : HP) (a0 : Nat) (x1 : Int32) : Option (Int32) :=
  f_A_standingAt_4 h 4096 a0 x1 (0 : Int32) (0 : Int32)
set_option maxHeartbeats 1000000 in
theorem x_A_standingAt {l : Launch} {D : va_G} {ad : Nat → Nat} {aC : Nat → ClassId} (hf : l.flags = flags0) (hI : Inj ad) {h : HP} {a0 : Nat} {x1 : Int32} {r : Int32} (k0 : knd a0 = 1) (e : f_A_standingAt h a0 x1 = some r) : CT l D ad aC m_A_standingAt [.ref a0, .int x1] h (.inl (some (.int r))) h := by
  refine CT.ofGo (by decide +kernel) rfl (Nat.le_of_ble_eq_true rfl) ?_
  unfold f_A_standingAt at e
  show Go l D ad aC (rmk m_A_standingAt) _ m_A_standingAt 0 [some (.ref a0), some (.int x1), none, none] [] h 0 0
  refine Go.run (pc' := 4) [.iconst 0, .istore_n 2, .iconst 0, .istore_n 3] (ls' := [some (.ref a0), some (.int x1), some (.int (0 : Int32)), some (.int (0 : Int32))]) (st' := []) (by decide +kernel) rfl rfl ?_
  exact x_A_standingAt_4 hf hI 4096 k0 e
def f_A_plugsAt_4 (h : HP)  : Nat → Nat → Int32 → Int32 → Int32 → Option (Int32)
  | 0, _, _, _, _ => none
  | n + 1, a0, x1, x2, x3 =>
    (f_S_lengthOf h (fld a0 0) x1).bind fun v1 =>
    if v1 ≤ x3 then
      some x2
    else
      (f_S_plugsOf h (fld a0 0) x1 x3).bind fun v4 =>
      f_A_plugsAt_4 h n a0 x1 (x2 + v4) (x3 + (1 : Int32))
set_option maxHeartbeats 1000000 in
theorem x_A_plugsAt_4 {l : Launch} {D : va_G} {ad : Nat → Nat} {aC : Nat → ClassId} (hf : l.flags = flags0) (hI : Inj ad) {h : HP} : ∀ (n : Nat) {a0 : Nat} {x1 : Int32} {x2 : Int32} {x3 : Int32} {r : Int32}, knd a0 = 1 → f_A_plugsAt_4 h n a0 x1 x2 x3 = some r → Go l D ad aC (rmk m_A_plugsAt) (QM D ad aC m_A_plugsAt (.inl (some (.int r))) h) m_A_plugsAt 4 [some (.ref a0), some (.int x1), some (.int x2), some (.int x3)] [] h 0 0 := by
  intro n
  induction n with
  | zero => intro a0 x1 x2 x3 r k0 e; exact no_none e
  | succ n ih =>
    intro a0 x1 x2 x3 r k0 e
    rw [f_A_plugsAt_4] at e
    refine Go.run (pc' := 6) [.iload_n 3, .aload_n 0] (ls' := [some (.ref a0), some (.int x1), some (.int x2), some (.int x3)]) (st' := [.ref a0, .int x3]) (by decide +kernel) rfl rfl ?_
    refine Go.getR fo_A_12 k0 (by decide +kernel) ?_
    refine Go.run (pc' := 10) [.iload_n 1] (ls' := [some (.ref a0), some (.int x1), some (.int x2), some (.int x3)]) (st' := [.int x1, .ref (fld a0 0), .int x3]) (by decide +kernel) rfl rfl ?_
    obtain ⟨v1, e2, e⟩ := bd_inv e
    refine Go.callV (M2 := m_S_lengthOf) (a := (fld a0 0)) (as := [.int x1]) (rest := [.int x3]) (v := some (.int v1)) (h1 := h) (x_S_lengthOf hf hI (kf_1_0 k0) e2) wv_A_124 (kf_1_0 k0) kc_6 (by decide +kernel) rfl rfl ⟨⟨Nat.le_of_ble_eq_true rfl, Nat.le_of_ble_eq_true rfl⟩, ⟨Nat.le_of_ble_eq_true rfl, Nat.le_of_ble_eq_true rfl⟩⟩ (Nat.le_of_ble_eq_true rfl) ?_
    show Go l D ad aC (rmk m_A_plugsAt) _ m_A_plugsAt 13 [some (.ref a0), some (.int x1), some (.int x2), some (.int x3)] [.int v1, .int x3] h 0 0
    refine Go.ic_ge (off := 21) (tgt := 34) (by decide +kernel) (by decide) (fun c3 => ?_) (fun c3 => ?_)
    · replace e := ite_t c3 e
      refine Go.run (pc' := 35) [.iload_n 2] (ls' := [some (.ref a0), some (.int x1), some (.int x2), some (.int x3)]) (st' := [.int x2]) (by decide +kernel) rfl rfl ?_
      obtain rfl := Option.some.inj e
      exact Go.iret rfl (by decide) (by decide) (by decide +kernel)
    · replace e := ite_f c3 e
      refine Go.run (pc' := 18) [.iload_n 2, .aload_n 0] (ls' := [some (.ref a0), some (.int x1), some (.int x2), some (.int x3)]) (st' := [.ref a0, .int x2]) (by decide +kernel) rfl rfl ?_
      refine Go.getR fo_A_12 k0 (by decide +kernel) ?_
      refine Go.run (pc' := 23) [.iload_n 1, .iload_n 3] (ls' := [some (.ref a0), some (.int x1), some (.int x2), some (.int x3)]) (st' := [.int x3, .int x1, .ref (fld a0 0), .int x2]) (by decide +kernel) rfl rfl ?_
      obtain ⟨v4, e5, e⟩ := bd_inv e
      refine Go.callV (M2 := m_S_plugsOf) (a := (fld a0 0)) (as := [.int x1, .int x3]) (rest := [.int x2]) (v := some (.int v4)) (h1 := h) (x_S_plugsOf hf hI (kf_1_0 k0) e5) wv_A_161 (kf_1_0 k0) kc_6 (by decide +kernel) rfl rfl ⟨⟨Nat.le_of_ble_eq_true rfl, Nat.le_of_ble_eq_true rfl⟩, ⟨Nat.le_of_ble_eq_true rfl, Nat.le_of_ble_eq_true rfl⟩⟩ (Nat.le_of_ble_eq_true rfl) ?_
      show Go l D ad aC (rmk m_A_plugsAt) _ m_A_plugsAt 26 [some (.ref a0), some (.int x1), some (.int x2), some (.int x3)] [.int v4, .int x2] h 0 0
      refine Go.run (pc' := 31) [.iadd, .istore_n 2, .iinc 3 (1)] (ls' := [some (.ref a0), some (.int x1), some (.int (x2 + v4)), some (.int (x3 + (1 : Int32)))]) (st' := []) (by decide +kernel) rfl rfl ?_
      refine Go.goto (off := -27) (tgt := 4) (by decide +kernel) (by decide) ?_
      exact ih k0 e
def f_A_plugsAt (h : HP) (a0 : Nat) (x1 : Int32) : Option (Int32) :=
  f_A_plugsAt_4 h 4096 a0 x1 (0 : Int32) (0 : Int32)
set_option maxHeartbeats 1000000 in
theorem x_A_plugsAt {l : Launch} {D : va_G} {ad : Nat → Nat} {aC : Nat → ClassId} (hf : l.flags = flags0) (hI : Inj ad) {h : HP} {a0 : Nat} {x1 : Int32} {r : Int32} (k0 : knd a0 = 1) (e : f_A_plugsAt h a0 x1 = some r) : CT l D ad aC m_A_plugsAt [.ref a0, .int x1] h (.inl (some (.int r))) h := by
  refine CT.ofGo (by decide +kernel) rfl (Nat.le_of_ble_eq_true rfl) ?_
  unfold f_A_plugsAt at e
  show Go l D ad aC (rmk m_A_plugsAt) _ m_A_plugsAt 0 [some (.ref a0), some (.int x1), none, none] [] h 0 0
  refine Go.run (pc' := 4) [.iconst 0, .istore_n 2, .iconst 0, .istore_n 3] (ls' := [some (.ref a0), some (.int x1), some (.int (0 : Int32)), some (.int (0 : Int32))]) (st' := []) (by decide +kernel) rfl rfl ?_
  exact x_A_plugsAt_4 hf hI 4096 k0 e
def f_A_plugsHadAt_4 (h : HP)  : Nat → Nat → Int32 → Int32 → Int32 → Option (Int32)
  | 0, _, _, _, _ => none
  | n + 1, a0, x1, x2, x3 =>
    (f_S_lengthOf h (fld a0 0) x1).bind fun v1 =>
    if v1 ≤ x3 then
      some x2
    else
      (f_W_takenFrom h (fld a0 1) x1 x3).bind fun v4 =>
      f_A_plugsHadAt_4 h n a0 x1 (x2 + v4) (x3 + (1 : Int32))
set_option maxHeartbeats 1000000 in
theorem x_A_plugsHadAt_4 {l : Launch} {D : va_G} {ad : Nat → Nat} {aC : Nat → ClassId} (hf : l.flags = flags0) (hI : Inj ad) {h : HP} : ∀ (n : Nat) {a0 : Nat} {x1 : Int32} {x2 : Int32} {x3 : Int32} {r : Int32}, knd a0 = 1 → f_A_plugsHadAt_4 h n a0 x1 x2 x3 = some r → Go l D ad aC (rmk m_A_plugsHadAt) (QM D ad aC m_A_plugsHadAt (.inl (some (.int r))) h) m_A_plugsHadAt 4 [some (.ref a0), some (.int x1), some (.int x2), some (.int x3)] [] h 0 0 := by
  intro n
  induction n with
  | zero => intro a0 x1 x2 x3 r k0 e; exact no_none e
  | succ n ih =>
    intro a0 x1 x2 x3 r k0 e
    rw [f_A_plugsHadAt_4] at e
    refine Go.run (pc' := 6) [.iload_n 3, .aload_n 0] (ls' := [some (.ref a0), some (.int x1), some (.int x2), some (.int x3)]) (st' := [.ref a0, .int x3]) (by decide +kernel) rfl rfl ?_
    refine Go.getR fo_A_12 k0 (by decide +kernel) ?_
    refine Go.run (pc' := 10) [.iload_n 1] (ls' := [some (.ref a0), some (.int x1), some (.int x2), some (.int x3)]) (st' := [.int x1, .ref (fld a0 0), .int x3]) (by decide +kernel) rfl rfl ?_
    obtain ⟨v1, e2, e⟩ := bd_inv e
    refine Go.callV (M2 := m_S_lengthOf) (a := (fld a0 0)) (as := [.int x1]) (rest := [.int x3]) (v := some (.int v1)) (h1 := h) (x_S_lengthOf hf hI (kf_1_0 k0) e2) wv_A_124 (kf_1_0 k0) kc_6 (by decide +kernel) rfl rfl ⟨⟨Nat.le_of_ble_eq_true rfl, Nat.le_of_ble_eq_true rfl⟩, ⟨Nat.le_of_ble_eq_true rfl, Nat.le_of_ble_eq_true rfl⟩⟩ (Nat.le_of_ble_eq_true rfl) ?_
    show Go l D ad aC (rmk m_A_plugsHadAt) _ m_A_plugsHadAt 13 [some (.ref a0), some (.int x1), some (.int x2), some (.int x3)] [.int v1, .int x3] h 0 0
    refine Go.ic_ge (off := 21) (tgt := 34) (by decide +kernel) (by decide) (fun c3 => ?_) (fun c3 => ?_)
    · replace e := ite_t c3 e
      refine Go.run (pc' := 35) [.iload_n 2] (ls' := [some (.ref a0), some (.int x1), some (.int x2), some (.int x3)]) (st' := [.int x2]) (by decide +kernel) rfl rfl ?_
      obtain rfl := Option.some.inj e
      exact Go.iret rfl (by decide) (by decide) (by decide +kernel)
    · replace e := ite_f c3 e
      refine Go.run (pc' := 18) [.iload_n 2, .aload_n 0] (ls' := [some (.ref a0), some (.int x1), some (.int x2), some (.int x3)]) (st' := [.ref a0, .int x2]) (by decide +kernel) rfl rfl ?_
      refine Go.getR fo_A_21 k0 (by decide +kernel) ?_
      refine Go.run (pc' := 23) [.iload_n 1, .iload_n 3] (ls' := [some (.ref a0), some (.int x1), some (.int x2), some (.int x3)]) (st' := [.int x3, .int x1, .ref (fld a0 1), .int x2]) (by decide +kernel) rfl rfl ?_
      obtain ⟨v4, e5, e⟩ := bd_inv e
      refine Go.callV (M2 := m_W_takenFrom) (a := (fld a0 1)) (as := [.int x1, .int x3]) (rest := [.int x2]) (v := some (.int v4)) (h1 := h) (x_W_takenFrom hf hI (kf_1_1 k0) e5) wv_A_164 (kf_1_1 k0) kc_4 (by decide +kernel) rfl rfl ⟨⟨Nat.le_of_ble_eq_true rfl, Nat.le_of_ble_eq_true rfl⟩, ⟨Nat.le_of_ble_eq_true rfl, Nat.le_of_ble_eq_true rfl⟩⟩ (Nat.le_of_ble_eq_true rfl) ?_
      show Go l D ad aC (rmk m_A_plugsHadAt) _ m_A_plugsHadAt 26 [some (.ref a0), some (.int x1), some (.int x2), some (.int x3)] [.int v4, .int x2] h 0 0
      refine Go.run (pc' := 31) [.iadd, .istore_n 2, .iinc 3 (1)] (ls' := [some (.ref a0), some (.int x1), some (.int (x2 + v4)), some (.int (x3 + (1 : Int32)))]) (st' := []) (by decide +kernel) rfl rfl ?_
      refine Go.goto (off := -27) (tgt := 4) (by decide +kernel) (by decide) ?_
      exact ih k0 e
def f_A_plugsHadAt (h : HP) (a0 : Nat) (x1 : Int32) : Option (Int32) :=
  f_A_plugsHadAt_4 h 4096 a0 x1 (0 : Int32) (0 : Int32)
set_option maxHeartbeats 1000000 in
theorem x_A_plugsHadAt {l : Launch} {D : va_G} {ad : Nat → Nat} {aC : Nat → ClassId} (hf : l.flags = flags0) (hI : Inj ad) {h : HP} {a0 : Nat} {x1 : Int32} {r : Int32} (k0 : knd a0 = 1) (e : f_A_plugsHadAt h a0 x1 = some r) : CT l D ad aC m_A_plugsHadAt [.ref a0, .int x1] h (.inl (some (.int r))) h := by
  refine CT.ofGo (by decide +kernel) rfl (Nat.le_of_ble_eq_true rfl) ?_
  unfold f_A_plugsHadAt at e
  show Go l D ad aC (rmk m_A_plugsHadAt) _ m_A_plugsHadAt 0 [some (.ref a0), some (.int x1), none, none] [] h 0 0
  refine Go.run (pc' := 4) [.iconst 0, .istore_n 2, .iconst 0, .istore_n 3] (ls' := [some (.ref a0), some (.int x1), some (.int (0 : Int32)), some (.int (0 : Int32))]) (st' := []) (by decide +kernel) rfl rfl ?_
  exact x_A_plugsHadAt_4 hf hI 4096 k0 e
def f_A_freeByMetres_32 (h : HP) (k4_ : Nat → Int32 → Int32 → Int32 → Option (Int32)) (a0 : Nat) (x1 : Int32) (x3 : Int32) (s0 : Int32) (s1 : Int32) : Option (Int32) :=
  k4_ a0 x1 (s0 + s1) (x3 + (1 : Int32))
set_option maxHeartbeats 1000000 in
theorem x_A_freeByMetres_32 {l : Launch} {D : va_G} {ad : Nat → Nat} {aC : Nat → ClassId} (hf : l.flags = flags0) (hI : Inj ad) {h : HP} {k4_ : Nat → Int32 → Int32 → Int32 → Option (Int32)} (K4_ : ∀ {a0 : Nat} {x1 : Int32} {x2 : Int32} {x3 : Int32} {r : Int32}, knd a0 = 1 → k4_ a0 x1 x2 x3 = some r → Go l D ad aC (rmk m_A_freeByMetres) (QM D ad aC m_A_freeByMetres (.inl (some (.int r))) h) m_A_freeByMetres 4 [some (.ref a0), some (.int x1), some (.int x2), some (.int x3)] [] h 0 0) {a0 : Nat} {x1 : Int32} {x3 : Int32} {s0 : Int32} {s1 : Int32} {r : Int32} (k0 : knd a0 = 1) (e : f_A_freeByMetres_32 h k4_ a0 x1 x3 s0 s1 = some r) : Go l D ad aC (rmk m_A_freeByMetres) (QM D ad aC m_A_freeByMetres (.inl (some (.int r))) h) m_A_freeByMetres 32 [some (.ref a0), some (.int x1), none, some (.int x3)] [.int s1, .int s0] h 0 0 := by
  unfold f_A_freeByMetres_32 at e
  refine Go.run (pc' := 37) [.iadd, .istore_n 2, .iinc 3 (1)] (ls' := [some (.ref a0), some (.int x1), some (.int (s0 + s1)), some (.int (x3 + (1 : Int32)))]) (st' := []) (by decide +kernel) rfl rfl ?_
  refine Go.goto (off := -33) (tgt := 4) (by decide +kernel) (by decide) ?_
  exact K4_ k0 e
def f_A_freeByMetres_4 (h : HP)  : Nat → Nat → Int32 → Int32 → Int32 → Option (Int32)
  | 0, _, _, _, _ => none
  | n + 1, a0, x1, x2, x3 =>
    (f_S_lengthOf h (fld a0 0) x1).bind fun v1 =>
    if v1 ≤ x3 then
      some x2
    else
      (f_A_whoStandsAt h a0 x1 x3).bind fun v4 =>
      if v4 = (-1 : Int32) then
        f_A_freeByMetres_32 h (f_A_freeByMetres_4 h n) a0 x1 x3 x2 (1 : Int32)
      else
        f_A_freeByMetres_32 h (f_A_freeByMetres_4 h n) a0 x1 x3 x2 (0 : Int32)
set_option maxHeartbeats 1000000 in
theorem x_A_freeByMetres_4 {l : Launch} {D : va_G} {ad : Nat → Nat} {aC : Nat → ClassId} (hf : l.flags = flags0) (hI : Inj ad) {h : HP} : ∀ (n : Nat) {a0 : Nat} {x1 : Int32} {x2 : Int32} {x3 : Int32} {r : Int32}, knd a0 = 1 → f_A_freeByMetres_4 h n a0 x1 x2 x3 = some r → Go l D ad aC (rmk m_A_freeByMetres) (QM D ad aC m_A_freeByMetres (.inl (some (.int r))) h) m_A_freeByMetres 4 [some (.ref a0), some (.int x1), some (.int x2), some (.int x3)] [] h 0 0 := by
  intro n
  induction n with
  | zero => intro a0 x1 x2 x3 r k0 e; exact no_none e
  | succ n ih =>
    intro a0 x1 x2 x3 r k0 e
    rw [f_A_freeByMetres_4] at e
    refine Go.run (pc' := 6) [.iload_n 3, .aload_n 0] (ls' := [some (.ref a0), some (.int x1), some (.int x2), some (.int x3)]) (st' := [.ref a0, .int x3]) (by decide +kernel) rfl rfl ?_
    refine Go.getR fo_A_12 k0 (by decide +kernel) ?_
    refine Go.run (pc' := 10) [.iload_n 1] (ls' := [some (.ref a0), some (.int x1), some (.int x2), some (.int x3)]) (st' := [.int x1, .ref (fld a0 0), .int x3]) (by decide +kernel) rfl rfl ?_
    obtain ⟨v1, e2, e⟩ := bd_inv e
    refine Go.callV (M2 := m_S_lengthOf) (a := (fld a0 0)) (as := [.int x1]) (rest := [.int x3]) (v := some (.int v1)) (h1 := h) (x_S_lengthOf hf hI (kf_1_0 k0) e2) wv_A_124 (kf_1_0 k0) kc_6 (by decide +kernel) rfl rfl ⟨⟨Nat.le_of_ble_eq_true rfl, Nat.le_of_ble_eq_true rfl⟩, ⟨Nat.le_of_ble_eq_true rfl, Nat.le_of_ble_eq_true rfl⟩⟩ (Nat.le_of_ble_eq_true rfl) ?_
    show Go l D ad aC (rmk m_A_freeByMetres) _ m_A_freeByMetres 13 [some (.ref a0), some (.int x1), some (.int x2), some (.int x3)] [.int v1, .int x3] h 0 0
    refine Go.ic_ge (off := 27) (tgt := 40) (by decide +kernel) (by decide) (fun c3 => ?_) (fun c3 => ?_)
    · replace e := ite_t c3 e
      refine Go.run (pc' := 41) [.iload_n 2] (ls' := [some (.ref a0), some (.int x1), some (.int x2), some (.int x3)]) (st' := [.int x2]) (by decide +kernel) rfl rfl ?_
      obtain rfl := Option.some.inj e
      exact Go.iret rfl (by decide) (by decide) (by decide +kernel)
    · replace e := ite_f c3 e
      refine Go.run (pc' := 20) [.iload_n 2, .aload_n 0, .iload_n 1, .iload_n 3] (ls' := [some (.ref a0), some (.int x1), some (.int x2), some (.int x3)]) (st' := [.int x3, .int x1, .ref a0, .int x2]) (by decide +kernel) rfl rfl ?_
      obtain ⟨v4, e5, e⟩ := bd_inv e
      refine Go.callV (M2 := m_A_whoStandsAt) (a := a0) (as := [.int x1, .int x3]) (rest := [.int x2]) (v := some (.int v4)) (h1 := h) (x_A_whoStandsAt hf hI k0 e5) wv_A_167 k0 kc_1 (by decide +kernel) rfl rfl ⟨⟨Nat.le_of_ble_eq_true rfl, Nat.le_of_ble_eq_true rfl⟩, ⟨Nat.le_of_ble_eq_true rfl, Nat.le_of_ble_eq_true rfl⟩⟩ (Nat.le_of_ble_eq_true rfl) ?_
      show Go l D ad aC (rmk m_A_freeByMetres) _ m_A_freeByMetres 23 [some (.ref a0), some (.int x1), some (.int x2), some (.int x3)] [.int v4, .int x2] h 0 0
      refine Go.run (pc' := 24) [.iconst (-1)] (ls' := [some (.ref a0), some (.int x1), some (.int x2), some (.int x3)]) (st' := [.int (-1 : Int32), .int v4, .int x2]) (by decide +kernel) rfl rfl ?_
      refine Go.ic_ne (off := 7) (tgt := 31) (by decide +kernel) (by decide) (fun c6 => ?_) (fun c6 => ?_)
      · replace e := ite_f c6 e
        refine Go.run (pc' := 32) [.iconst 0] (ls' := [some (.ref a0), some (.int x1), some (.int x2), some (.int x3)]) (st' := [.int (0 : Int32), .int x2]) (by decide +kernel) rfl rfl ?_
        refine Go.wk' (wks (wks (wkn (wks wk0)))) ?_
        exact x_A_freeByMetres_32 hf hI (fun kk0 e => ih kk0 e) k0 e
      · replace e := ite_t c6 e
        refine Go.run (pc' := 28) [.iconst 1] (ls' := [some (.ref a0), some (.int x1), some (.int x2), some (.int x3)]) (st' := [.int (1 : Int32), .int x2]) (by decide +kernel) rfl rfl ?_
        refine Go.goto (off := 4) (tgt := 32) (by decide +kernel) (by decide) ?_
        refine Go.wk' (wks (wks (wkn (wks wk0)))) ?_
        exact x_A_freeByMetres_32 hf hI (fun kk0 e => ih kk0 e) k0 e
def f_A_freeByMetres (h : HP) (a0 : Nat) (x1 : Int32) : Option (Int32) :=
  f_A_freeByMetres_4 h 4096 a0 x1 (0 : Int32) (0 : Int32)
set_option maxHeartbeats 1000000 in
theorem x_A_freeByMetres {l : Launch} {D : va_G} {ad : Nat → Nat} {aC : Nat → ClassId} (hf : l.flags = flags0) (hI : Inj ad) {h : HP} {a0 : Nat} {x1 : Int32} {r : Int32} (k0 : knd a0 = 1) (e : f_A_freeByMetres h a0 x1 = some r) : CT l D ad aC m_A_freeByMetres [.ref a0, .int x1] h (.inl (some (.int r))) h := by
  refine CT.ofGo (by decide +kernel) rfl (Nat.le_of_ble_eq_true rfl) ?_
  unfold f_A_freeByMetres at e
  show Go l D ad aC (rmk m_A_freeByMetres) _ m_A_freeByMetres 0 [some (.ref a0), some (.int x1), none, none] [] h 0 0
  refine Go.run (pc' := 4) [.iconst 0, .istore_n 2, .iconst 0, .istore_n 3] (ls' := [some (.ref a0), some (.int x1), some (.int (0 : Int32)), some (.int (0 : Int32))]) (st' := []) (by decide +kernel) rfl rfl ?_
  exact x_A_freeByMetres_4 hf hI 4096 k0 e
def f_A_freeByFrontages_54 (h : HP) (k11_ : Nat → Int32 → Int32 → Int32 → Option (Int32)) (a0 : Nat) (x1 : Int32) (x3 : Int32) (s0 : Int32) (s1 : Int32) : Option (Int32) :=
  k11_ a0 x1 (s0 - s1) (x3 + (1 : Int32))
set_option maxHeartbeats 1000000 in
theorem x_A_freeByFrontages_54 {l : Launch} {D : va_G} {ad : Nat → Nat} {aC : Nat → ClassId} (hf : l.flags = flags0) (hI : Inj ad) {h : HP} {k11_ : Nat → Int32 → Int32 → Int32 → Option (Int32)} (K11_ : ∀ {a0 : Nat} {x1 : Int32} {x2 : Int32} {x3 : Int32} {r : Int32}, knd a0 = 1 → k11_ a0 x1 x2 x3 = some r → Go l D ad aC (rmk m_A_freeByFrontages) (QM D ad aC m_A_freeByFrontages (.inl (some (.int r))) h) m_A_freeByFrontages 11 [some (.ref a0), some (.int x1), some (.int x2), some (.int x3)] [] h 0 0) {a0 : Nat} {x1 : Int32} {x3 : Int32} {s0 : Int32} {s1 : Int32} {r : Int32} (k0 : knd a0 = 1) (e : f_A_freeByFrontages_54 h k11_ a0 x1 x3 s0 s1 = some r) : Go l D ad aC (rmk m_A_freeByFrontages) (QM D ad aC m_A_freeByFrontages (.inl (some (.int r))) h) m_A_freeByFrontages 54 [some (.ref a0), some (.int x1), none, some (.int x3)] [.int s1, .int s0] h 0 0 := by
  unfold f_A_freeByFrontages_54 at e
  refine Go.run (pc' := 59) [.isub, .istore_n 2, .iinc 3 (1)] (ls' := [some (.ref a0), some (.int x1), some (.int (s0 - s1)), some (.int (x3 + (1 : Int32)))]) (st' := []) (by decide +kernel) rfl rfl ?_
  refine Go.goto (off := -48) (tgt := 11) (by decide +kernel) (by decide) ?_
  exact K11_ k0 e
def f_A_freeByFrontages_11 (h : HP)  : Nat → Nat → Int32 → Int32 → Int32 → Option (Int32)
  | 0, _, _, _, _ => none
  | n + 1, a0, x1, x2, x3 =>
    if (h (fld a0 0) 10) ≤ x3 then
      some x2
    else
      if (10 : Int32) ≤ x3 then
        some x2
      else
        (f_S_standsAt h (fld a0 0) x3 x1).bind fun v3 =>
        if v3 = 0 then
          f_A_freeByFrontages_54 h (f_A_freeByFrontages_11 h n) a0 x1 x3 x2 (0 : Int32)
        else
          if ib x3 10 = true then
          f_A_freeByFrontages_54 h (f_A_freeByFrontages_11 h n) a0 x1 x3 x2 (h (fld (fld a0 0) 3) x3.toNatClampNeg)
          else none
set_option maxHeartbeats 1000000 in
theorem x_A_freeByFrontages_11 {l : Launch} {D : va_G} {ad : Nat → Nat} {aC : Nat → ClassId} (hf : l.flags = flags0) (hI : Inj ad) {h : HP} : ∀ (n : Nat) {a0 : Nat} {x1 : Int32} {x2 : Int32} {x3 : Int32} {r : Int32}, knd a0 = 1 → f_A_freeByFrontages_11 h n a0 x1 x2 x3 = some r → Go l D ad aC (rmk m_A_freeByFrontages) (QM D ad aC m_A_freeByFrontages (.inl (some (.int r))) h) m_A_freeByFrontages 11 [some (.ref a0), some (.int x1), some (.int x2), some (.int x3)] [] h 0 0 := by
  intro n
  induction n with
  | zero => intro a0 x1 x2 x3 r k0 e; exact no_none e
  | succ n ih =>
    intro a0 x1 x2 x3 r k0 e
    rw [f_A_freeByFrontages_11] at e
    refine Go.run (pc' := 13) [.iload_n 3, .aload_n 0] (ls' := [some (.ref a0), some (.int x1), some (.int x2), some (.int x3)]) (st' := [.ref a0, .int x3]) (by decide +kernel) rfl rfl ?_
    refine Go.getR fo_A_12 k0 (by decide +kernel) ?_
    refine Go.getI fo_A_61 (kf_1_0 k0) (by decide +kernel) ?_
    refine Go.ic_ge (off := 43) (tgt := 62) (by decide +kernel) (by decide) (fun c1 => ?_) (fun c1 => ?_)
    · replace e := ite_t c1 e
      refine Go.run (pc' := 63) [.iload_n 2] (ls' := [some (.ref a0), some (.int x1), some (.int x2), some (.int x3)]) (st' := [.int x2]) (by decide +kernel) rfl rfl ?_
      obtain rfl := Option.some.inj e
      exact Go.iret rfl (by decide) (by decide) (by decide +kernel)
    · replace e := ite_f c1 e
      refine Go.run (pc' := 25) [.iload_n 3, .bipush (10)] (ls' := [some (.ref a0), some (.int x1), some (.int x2), some (.int x3)]) (st' := [.int (10 : Int32), .int x3]) (by decide +kernel) rfl rfl ?_
      refine Go.ic_ge (off := 37) (tgt := 62) (by decide +kernel) (by decide) (fun c2 => ?_) (fun c2 => ?_)
      · replace e := ite_t c2 e
        refine Go.run (pc' := 63) [.iload_n 2] (ls' := [some (.ref a0), some (.int x1), some (.int x2), some (.int x3)]) (st' := [.int x2]) (by decide +kernel) rfl rfl ?_
        obtain rfl := Option.some.inj e
        exact Go.iret rfl (by decide) (by decide) (by decide +kernel)
      · replace e := ite_f c2 e
        refine Go.run (pc' := 30) [.iload_n 2, .aload_n 0] (ls' := [some (.ref a0), some (.int x1), some (.int x2), some (.int x3)]) (st' := [.ref a0, .int x2]) (by decide +kernel) rfl rfl ?_
        refine Go.getR fo_A_12 k0 (by decide +kernel) ?_
        refine Go.run (pc' := 35) [.iload_n 3, .iload_n 1] (ls' := [some (.ref a0), some (.int x1), some (.int x2), some (.int x3)]) (st' := [.int x1, .int x3, .ref (fld a0 0), .int x2]) (by decide +kernel) rfl rfl ?_
        obtain ⟨v3, e4, e⟩ := bd_inv e
        refine Go.callV (M2 := m_S_standsAt) (a := (fld a0 0)) (as := [.int x3, .int x1]) (rest := [.int x2]) (v := some (.int v3)) (h1 := h) (x_S_standsAt hf hI (kf_1_0 k0) e4) wv_A_138 (kf_1_0 k0) kc_6 (by decide +kernel) rfl rfl ⟨⟨Nat.le_of_ble_eq_true rfl, Nat.le_of_ble_eq_true rfl⟩, ⟨Nat.le_of_ble_eq_true rfl, Nat.le_of_ble_eq_true rfl⟩⟩ (Nat.le_of_ble_eq_true rfl) ?_
        show Go l D ad aC (rmk m_A_freeByFrontages) _ m_A_freeByFrontages 38 [some (.ref a0), some (.int x1), some (.int x2), some (.int x3)] [.int v3, .int x2] h 0 0
        refine Go.if_eq (off := 15) (tgt := 53) (by decide +kernel) (by decide) (fun c5 => ?_) (fun c5 => ?_)
        · replace e := ite_t c5 e
          refine Go.run (pc' := 54) [.iconst 0] (ls' := [some (.ref a0), some (.int x1), some (.int x2), some (.int x3)]) (st' := [.int (0 : Int32), .int x2]) (by decide +kernel) rfl rfl ?_
          refine Go.wk' (wks (wks (wkn (wks wk0)))) ?_
          exact x_A_freeByFrontages_54 hf hI (fun kk0 e => ih kk0 e) k0 e
        · replace e := ite_f c5 e
          refine Go.run (pc' := 42) [.aload_n 0] (ls' := [some (.ref a0), some (.int x1), some (.int x2), some (.int x3)]) (st' := [.ref a0, .int x2]) (by decide +kernel) rfl rfl ?_
          refine Go.getR fo_A_12 k0 (by decide +kernel) ?_
          refine Go.getR fo_A_70 (kf_1_0 k0) (by decide +kernel) ?_
          refine Go.run (pc' := 49) [.iload_n 3] (ls' := [some (.ref a0), some (.int x1), some (.int x2), some (.int x3)]) (st' := [.int x3, .ref (fld (fld a0 0) 3), .int x2]) (by decide +kernel) rfl rfl ?_
          obtain ⟨g6, e⟩ := gd_inv e
          refine Go.iald (kf_6_j 3 (kf_1_0 k0) (by decide)) (al_6_j 3 (kf_1_0 k0) (by decide) rfl) g6 (by decide +kernel) ?_
          refine Go.goto (off := 4) (tgt := 54) (by decide +kernel) (by decide) ?_
          refine Go.wk' (wks (wks (wkn (wks wk0)))) ?_
          exact x_A_freeByFrontages_54 hf hI (fun kk0 e => ih kk0 e) k0 e
def f_A_freeByFrontages (h : HP) (a0 : Nat) (x1 : Int32) : Option (Int32) :=
  (f_S_lengthOf h (fld a0 0) x1).bind fun v1 =>
  f_A_freeByFrontages_11 h 4096 a0 x1 v1 (0 : Int32)
set_option maxHeartbeats 1000000 in
theorem x_A_freeByFrontages {l : Launch} {D : va_G} {ad : Nat → Nat} {aC : Nat → ClassId} (hf : l.flags = flags0) (hI : Inj ad) {h : HP} {a0 : Nat} {x1 : Int32} {r : Int32} (k0 : knd a0 = 1) (e : f_A_freeByFrontages h a0 x1 = some r) : CT l D ad aC m_A_freeByFrontages [.ref a0, .int x1] h (.inl (some (.int r))) h := by
  refine CT.ofGo (by decide +kernel) rfl (Nat.le_of_ble_eq_true rfl) ?_
  unfold f_A_freeByFrontages at e
  show Go l D ad aC (rmk m_A_freeByFrontages) _ m_A_freeByFrontages 0 [some (.ref a0), some (.int x1), none, none] [] h 0 0
  refine Go.run (pc' := 1) [.aload_n 0] (ls' := [some (.ref a0), some (.int x1), none, none]) (st' := [.ref a0]) (by decide +kernel) rfl rfl ?_
  refine Go.getR fo_A_12 k0 (by decide +kernel) ?_
  refine Go.run (pc' := 5) [.iload_n 1] (ls' := [some (.ref a0), some (.int x1), none, none]) (st' := [.int x1, .ref (fld a0 0)]) (by decide +kernel) rfl rfl ?_
  obtain ⟨v1, e2, e⟩ := bd_inv e
  refine Go.callV (M2 := m_S_lengthOf) (a := (fld a0 0)) (as := [.int x1]) (rest := []) (v := some (.int v1)) (h1 := h) (x_S_lengthOf hf hI (kf_1_0 k0) e2) wv_A_124 (kf_1_0 k0) kc_6 (by decide +kernel) rfl rfl ⟨⟨Nat.le_of_ble_eq_true rfl, Nat.le_of_ble_eq_true rfl⟩, ⟨Nat.le_of_ble_eq_true rfl, Nat.le_of_ble_eq_true rfl⟩⟩ (Nat.le_of_ble_eq_true rfl) ?_
  show Go l D ad aC (rmk m_A_freeByFrontages) _ m_A_freeByFrontages 8 [some (.ref a0), some (.int x1), none, none] [.int v1] h 0 0
  refine Go.run (pc' := 11) [.istore_n 2, .iconst 0, .istore_n 3] (ls' := [some (.ref a0), some (.int x1), some (.int v1), some (.int (0 : Int32))]) (st' := []) (by decide +kernel) rfl rfl ?_
  exact x_A_freeByFrontages_11 hf hI 4096 k0 e
def f_A_longestFreeRow_38 (h : HP) (k7_ : Nat → Int32 → Int32 → Int32 → Int32 → Option (Int32)) (a0 : Nat) (x1 : Int32) (x2 : Int32) (x4 : Int32) (s0 : Int32) : Option (Int32) :=
  (f_J_max h x2 s0).bind fun v1 =>
  k7_ a0 x1 v1 s0 (x4 + (1 : Int32))
set_option maxHeartbeats 1000000 in
theorem x_A_longestFreeRow_38 {l : Launch} {D : va_G} {ad : Nat → Nat} {aC : Nat → ClassId} (hf : l.flags = flags0) (hI : Inj ad) {h : HP} {k7_ : Nat → Int32 → Int32 → Int32 → Int32 → Option (Int32)} (K7_ : ∀ {a0 : Nat} {x1 : Int32} {x2 : Int32} {x3 : Int32} {x4 : Int32} {r : Int32}, knd a0 = 1 → k7_ a0 x1 x2 x3 x4 = some r → Go l D ad aC (rmk m_A_longestFreeRow) (QM D ad aC m_A_longestFreeRow (.inl (some (.int r))) h) m_A_longestFreeRow 7 [some (.ref a0), some (.int x1), some (.int x2), some (.int x3), some (.int x4)] [] h 0 0) {a0 : Nat} {x1 : Int32} {x2 : Int32} {x4 : Int32} {s0 : Int32} {r : Int32} (k0 : knd a0 = 1) (e : f_A_longestFreeRow_38 h k7_ a0 x1 x2 x4 s0 = some r) : Go l D ad aC (rmk m_A_longestFreeRow) (QM D ad aC m_A_longestFreeRow (.inl (some (.int r))) h) m_A_longestFreeRow 38 [some (.ref a0), some (.int x1), some (.int x2), none, some (.int x4)] [.int s0] h 0 0 := by
  unfold f_A_longestFreeRow_38 at e
  refine Go.run (pc' := 41) [.istore_n 3, .iload_n 2, .iload_n 3] (ls' := [some (.ref a0), some (.int x1), some (.int x2), some (.int s0), some (.int x4)]) (st' := [.int s0, .int x2]) (by decide +kernel) rfl rfl ?_
  obtain ⟨v1, e2, e⟩ := bd_inv e
  refine Go.callS (M2 := m_J_max) (as := [.int x2, .int s0]) (rest := []) (v := some (.int v1)) (h1 := h) (x_J_max hf hI  e2) ws_A_156 (by decide +kernel) rfl rfl ⟨⟨Nat.le_of_ble_eq_true rfl, Nat.le_of_ble_eq_true rfl⟩, ⟨Nat.le_of_ble_eq_true rfl, Nat.le_of_ble_eq_true rfl⟩⟩ (Nat.le_of_ble_eq_true rfl) ?_
  show Go l D ad aC (rmk m_A_longestFreeRow) _ m_A_longestFreeRow 44 [some (.ref a0), some (.int x1), some (.int x2), some (.int s0), some (.int x4)] [.int v1] h 0 0
  refine Go.run (pc' := 48) [.istore_n 2, .iinc 4 (1)] (ls' := [some (.ref a0), some (.int x1), some (.int v1), some (.int s0), some (.int (x4 + (1 : Int32)))]) (st' := []) (by decide +kernel) rfl rfl ?_
  refine Go.goto (off := -41) (tgt := 7) (by decide +kernel) (by decide) ?_
  exact K7_ k0 e
def f_A_longestFreeRow_7 (h : HP)  : Nat → Nat → Int32 → Int32 → Int32 → Int32 → Option (Int32)
  | 0, _, _, _, _, _ => none
  | n + 1, a0, x1, x2, x3, x4 =>
    (f_S_lengthOf h (fld a0 0) x1).bind fun v1 =>
    if v1 ≤ x4 then
      some x2
    else
      (f_A_whoStandsAt h a0 x1 x4).bind fun v4 =>
      if v4 = (-1 : Int32) then
        f_A_longestFreeRow_38 h (f_A_longestFreeRow_7 h n) a0 x1 x2 x4 (x3 + (1 : Int32))
      else
        f_A_longestFreeRow_38 h (f_A_longestFreeRow_7 h n) a0 x1 x2 x4 (0 : Int32)
set_option maxHeartbeats 1000000 in
theorem x_A_longestFreeRow_7 {l : Launch} {D : va_G} {ad : Nat → Nat} {aC : Nat → ClassId} (hf : l.flags = flags0) (hI : Inj ad) {h : HP} : ∀ (n : Nat) {a0 : Nat} {x1 : Int32} {x2 : Int32} {x3 : Int32} {x4 : Int32} {r : Int32}, knd a0 = 1 → f_A_longestFreeRow_7 h n a0 x1 x2 x3 x4 = some r → Go l D ad aC (rmk m_A_longestFreeRow) (QM D ad aC m_A_longestFreeRow (.inl (some (.int r))) h) m_A_longestFreeRow 7 [some (.ref a0), some (.int x1), some (.int x2), some (.int x3), some (.int x4)] [] h 0 0 := by
  intro n
  induction n with
  | zero => intro a0 x1 x2 x3 x4 r k0 e; exact no_none e
  | succ n ih =>
    intro a0 x1 x2 x3 x4 r k0 e
    rw [f_A_longestFreeRow_7] at e
    refine Go.run (pc' := 10) [.iload 4, .aload_n 0] (ls' := [some (.ref a0), some (.int x1), some (.int x2), some (.int x3), some (.int x4)]) (st' := [.ref a0, .int x4]) (by decide +kernel) rfl rfl ?_
    refine Go.getR fo_A_12 k0 (by decide +kernel) ?_
    refine Go.run (pc' := 14) [.iload_n 1] (ls' := [some (.ref a0), some (.int x1), some (.int x2), some (.int x3), some (.int x4)]) (st' := [.int x1, .ref (fld a0 0), .int x4]) (by decide +kernel) rfl rfl ?_
    obtain ⟨v1, e2, e⟩ := bd_inv e
    refine Go.callV (M2 := m_S_lengthOf) (a := (fld a0 0)) (as := [.int x1]) (rest := [.int x4]) (v := some (.int v1)) (h1 := h) (x_S_lengthOf hf hI (kf_1_0 k0) e2) wv_A_124 (kf_1_0 k0) kc_6 (by decide +kernel) rfl rfl ⟨⟨Nat.le_of_ble_eq_true rfl, Nat.le_of_ble_eq_true rfl⟩, ⟨Nat.le_of_ble_eq_true rfl, Nat.le_of_ble_eq_true rfl⟩⟩ (Nat.le_of_ble_eq_true rfl) ?_
    show Go l D ad aC (rmk m_A_longestFreeRow) _ m_A_longestFreeRow 17 [some (.ref a0), some (.int x1), some (.int x2), some (.int x3), some (.int x4)] [.int v1, .int x4] h 0 0
    refine Go.ic_ge (off := 34) (tgt := 51) (by decide +kernel) (by decide) (fun c3 => ?_) (fun c3 => ?_)
    · replace e := ite_t c3 e
      refine Go.run (pc' := 52) [.iload_n 2] (ls' := [some (.ref a0), some (.int x1), some (.int x2), some (.int x3), some (.int x4)]) (st' := [.int x2]) (by decide +kernel) rfl rfl ?_
      obtain rfl := Option.some.inj e
      exact Go.iret rfl (by decide) (by decide) (by decide +kernel)
    · replace e := ite_f c3 e
      refine Go.run (pc' := 24) [.aload_n 0, .iload_n 1, .iload 4] (ls' := [some (.ref a0), some (.int x1), some (.int x2), some (.int x3), some (.int x4)]) (st' := [.int x4, .int x1, .ref a0]) (by decide +kernel) rfl rfl ?_
      obtain ⟨v4, e5, e⟩ := bd_inv e
      refine Go.callV (M2 := m_A_whoStandsAt) (a := a0) (as := [.int x1, .int x4]) (rest := []) (v := some (.int v4)) (h1 := h) (x_A_whoStandsAt hf hI k0 e5) wv_A_167 k0 kc_1 (by decide +kernel) rfl rfl ⟨⟨Nat.le_of_ble_eq_true rfl, Nat.le_of_ble_eq_true rfl⟩, ⟨Nat.le_of_ble_eq_true rfl, Nat.le_of_ble_eq_true rfl⟩⟩ (Nat.le_of_ble_eq_true rfl) ?_
      show Go l D ad aC (rmk m_A_longestFreeRow) _ m_A_longestFreeRow 27 [some (.ref a0), some (.int x1), some (.int x2), some (.int x3), some (.int x4)] [.int v4] h 0 0
      refine Go.run (pc' := 28) [.iconst (-1)] (ls' := [some (.ref a0), some (.int x1), some (.int x2), some (.int x3), some (.int x4)]) (st' := [.int (-1 : Int32), .int v4]) (by decide +kernel) rfl rfl ?_
      refine Go.ic_ne (off := 9) (tgt := 37) (by decide +kernel) (by decide) (fun c6 => ?_) (fun c6 => ?_)
      · replace e := ite_f c6 e
        refine Go.run (pc' := 38) [.iconst 0] (ls' := [some (.ref a0), some (.int x1), some (.int x2), some (.int x3), some (.int x4)]) (st' := [.int (0 : Int32)]) (by decide +kernel) rfl rfl ?_
        refine Go.wk' (wks (wks (wks (wkn (wks wk0))))) ?_
        exact x_A_longestFreeRow_38 hf hI (fun kk0 e => ih kk0 e) k0 e
      · replace e := ite_t c6 e
        refine Go.run (pc' := 34) [.iload_n 3, .iconst 1, .iadd] (ls' := [some (.ref a0), some (.int x1), some (.int x2), some (.int x3), some (.int x4)]) (st' := [.int (x3 + (1 : Int32))]) (by decide +kernel) rfl rfl ?_
        refine Go.goto (off := 4) (tgt := 38) (by decide +kernel) (by decide) ?_
        refine Go.wk' (wks (wks (wks (wkn (wks wk0))))) ?_
        exact x_A_longestFreeRow_38 hf hI (fun kk0 e => ih kk0 e) k0 e
def f_A_longestFreeRow (h : HP) (a0 : Nat) (x1 : Int32) : Option (Int32) :=
  f_A_longestFreeRow_7 h 4096 a0 x1 (0 : Int32) (0 : Int32) (0 : Int32)
set_option maxHeartbeats 1000000 in
theorem x_A_longestFreeRow {l : Launch} {D : va_G} {ad : Nat → Nat} {aC : Nat → ClassId} (hf : l.flags = flags0) (hI : Inj ad) {h : HP} {a0 : Nat} {x1 : Int32} {r : Int32} (k0 : knd a0 = 1) (e : f_A_longestFreeRow h a0 x1 = some r) : CT l D ad aC m_A_longestFreeRow [.ref a0, .int x1] h (.inl (some (.int r))) h := by
  refine CT.ofGo (by decide +kernel) rfl (Nat.le_of_ble_eq_true rfl) ?_
  unfold f_A_longestFreeRow at e
  show Go l D ad aC (rmk m_A_longestFreeRow) _ m_A_longestFreeRow 0 [some (.ref a0), some (.int x1), none, none, none] [] h 0 0
  refine Go.run (pc' := 7) [.iconst 0, .istore_n 2, .iconst 0, .istore_n 3, .iconst 0, .istore 4] (ls' := [some (.ref a0), some (.int x1), some (.int (0 : Int32)), some (.int (0 : Int32)), some (.int (0 : Int32))]) (st' := []) (by decide +kernel) rfl rfl ?_
  exact x_A_longestFreeRow_7 hf hI 4096 k0 e
def f_A_startOfLongestFreeRow_59 (h : HP) (k11_ : Nat → Int32 → Int32 → Int32 → Int32 → Option (Int32)) (a0 : Nat) (x1 : Int32) (x2 : Int32) (x3 : Int32) (x4 : Int32) : Option (Int32) :=
  k11_ a0 x1 x2 x3 (x4 + (1 : Int32))
set_option maxHeartbeats 1000000 in
theorem x_A_startOfLongestFreeRow_59 {l : Launch} {D : va_G} {ad : Nat → Nat} {aC : Nat → ClassId} (hf : l.flags = flags0) (hI : Inj ad) {h : HP} {k11_ : Nat → Int32 → Int32 → Int32 → Int32 → Option (Int32)} (K11_ : ∀ {a0 : Nat} {x1 : Int32} {x2 : Int32} {x3 : Int32} {x4 : Int32} {r : Int32}, knd a0 = 1 → k11_ a0 x1 x2 x3 x4 = some r → Go l D ad aC (rmk m_A_startOfLongestFreeRow) (QM D ad aC m_A_startOfLongestFreeRow (.inl (some (.int r))) h) m_A_startOfLongestFreeRow 11 [some (.ref a0), some (.int x1), some (.int x2), some (.int x3), some (.int x4)] [] h 0 0) {a0 : Nat} {x1 : Int32} {x2 : Int32} {x3 : Int32} {x4 : Int32} {r : Int32} (k0 : knd a0 = 1) (e : f_A_startOfLongestFreeRow_59 h k11_ a0 x1 x2 x3 x4 = some r) : Go l D ad aC (rmk m_A_startOfLongestFreeRow) (QM D ad aC m_A_startOfLongestFreeRow (.inl (some (.int r))) h) m_A_startOfLongestFreeRow 59 [some (.ref a0), some (.int x1), some (.int x2), some (.int x3), some (.int x4)] [] h 0 0 := by
  unfold f_A_startOfLongestFreeRow_59 at e
  refine Go.run (pc' := 62) [.iinc 4 (1)] (ls' := [some (.ref a0), some (.int x1), some (.int x2), some (.int x3), some (.int (x4 + (1 : Int32)))]) (st' := []) (by decide +kernel) rfl rfl ?_
  refine Go.goto (off := -51) (tgt := 11) (by decide +kernel) (by decide) ?_
  exact K11_ k0 e
def f_A_startOfLongestFreeRow_42 (h : HP) (k11_ : Nat → Int32 → Int32 → Int32 → Int32 → Option (Int32)) (a0 : Nat) (x1 : Int32) (x2 : Int32) (x4 : Int32) (s0 : Int32) : Option (Int32) :=
  if s0 ≤ 0 then
    f_A_startOfLongestFreeRow_59 h k11_ a0 x1 x2 s0 x4
  else
    if s0 = x2 then
      some ((x4 + (1 : Int32)) - s0)
    else
      f_A_startOfLongestFreeRow_59 h k11_ a0 x1 x2 s0 x4
set_option maxHeartbeats 1000000 in
theorem x_A_startOfLongestFreeRow_42 {l : Launch} {D : va_G} {ad : Nat → Nat} {aC : Nat → ClassId} (hf : l.flags = flags0) (hI : Inj ad) {h : HP} {k11_ : Nat → Int32 → Int32 → Int32 → Int32 → Option (Int32)} (K11_ : ∀ {a0 : Nat} {x1 : Int32} {x2 : Int32} {x3 : Int32} {x4 : Int32} {r : Int32}, knd a0 = 1 → k11_ a0 x1 x2 x3 x4 = some r → Go l D ad aC (rmk m_A_startOfLongestFreeRow) (QM D ad aC m_A_startOfLongestFreeRow (.inl (some (.int r))) h) m_A_startOfLongestFreeRow 11 [some (.ref a0), some (.int x1), some (.int x2), some (.int x3), some (.int x4)] [] h 0 0) {a0 : Nat} {x1 : Int32} {x2 : Int32} {x4 : Int32} {s0 : Int32} {r : Int32} (k0 : knd a0 = 1) (e : f_A_startOfLongestFreeRow_42 h k11_ a0 x1 x2 x4 s0 = some r) : Go l D ad aC (rmk m_A_startOfLongestFreeRow) (QM D ad aC m_A_startOfLongestFreeRow (.inl (some (.int r))) h) m_A_startOfLongestFreeRow 42 [some (.ref a0), some (.int x1), some (.int x2), none, some (.int x4)] [.int s0] h 0 0 := by
  unfold f_A_startOfLongestFreeRow_42 at e
  refine Go.run (pc' := 44) [.istore_n 3, .iload_n 3] (ls' := [some (.ref a0), some (.int x1), some (.int x2), some (.int s0), some (.int x4)]) (st' := [.int s0]) (by decide +kernel) rfl rfl ?_
  refine Go.if_le (off := 15) (tgt := 59) (by decide +kernel) (by decide) (fun c1 => ?_) (fun c1 => ?_)
  · replace e := ite_t c1 e
    exact x_A_startOfLongestFreeRow_59 hf hI K11_ k0 e
  · replace e := ite_f c1 e
    refine Go.run (pc' := 49) [.iload_n 3, .iload_n 2] (ls' := [some (.ref a0), some (.int x1), some (.int x2), some (.int s0), some (.int x4)]) (st' := [.int x2, .int s0]) (by decide +kernel) rfl rfl ?_
    refine Go.ic_ne (off := 10) (tgt := 59) (by decide +kernel) (by decide) (fun c2 => ?_) (fun c2 => ?_)
    · replace e := ite_f c2 e
      exact x_A_startOfLongestFreeRow_59 hf hI K11_ k0 e
    · replace e := ite_t c2 e
      refine Go.run (pc' := 58) [.iload 4, .iconst 1, .iadd, .iload_n 3, .isub] (ls' := [some (.ref a0), some (.int x1), some (.int x2), some (.int s0), some (.int x4)]) (st' := [.int ((x4 + (1 : Int32)) - s0)]) (by decide +kernel) rfl rfl ?_
      obtain rfl := Option.some.inj e
      exact Go.iret rfl (by decide) (by decide) (by decide +kernel)
def f_A_startOfLongestFreeRow_11 (h : HP)  : Nat → Nat → Int32 → Int32 → Int32 → Int32 → Option (Int32)
  | 0, _, _, _, _, _ => none
  | n + 1, a0, x1, x2, x3, x4 =>
    (f_S_lengthOf h (fld a0 0) x1).bind fun v1 =>
    if v1 ≤ x4 then
      some (-1 : Int32)
    else
      (f_A_whoStandsAt h a0 x1 x4).bind fun v4 =>
      if v4 = (-1 : Int32) then
        f_A_startOfLongestFreeRow_42 h (f_A_startOfLongestFreeRow_11 h n) a0 x1 x2 x4 (x3 + (1 : Int32))
      else
        f_A_startOfLongestFreeRow_42 h (f_A_startOfLongestFreeRow_11 h n) a0 x1 x2 x4 (0 : Int32)
set_option maxHeartbeats 1000000 in
theorem x_A_startOfLongestFreeRow_11 {l : Launch} {D : va_G} {ad : Nat → Nat} {aC : Nat → ClassId} (hf : l.flags = flags0) (hI : Inj ad) {h : HP} : ∀ (n : Nat) {a0 : Nat} {x1 : Int32} {x2 : Int32} {x3 : Int32} {x4 : Int32} {r : Int32}, knd a0 = 1 → f_A_startOfLongestFreeRow_11 h n a0 x1 x2 x3 x4 = some r → Go l D ad aC (rmk m_A_startOfLongestFreeRow) (QM D ad aC m_A_startOfLongestFreeRow (.inl (some (.int r))) h) m_A_startOfLongestFreeRow 11 [some (.ref a0), some (.int x1), some (.int x2), some (.int x3), some (.int x4)] [] h 0 0 := by
  intro n
  induction n with
  | zero => intro a0 x1 x2 x3 x4 r k0 e; exact no_none e
  | succ n ih =>
    intro a0 x1 x2 x3 x4 r k0 e
    rw [f_A_startOfLongestFreeRow_11] at e
    refine Go.run (pc' := 14) [.iload 4, .aload_n 0] (ls' := [some (.ref a0), some (.int x1), some (.int x2), some (.int x3), some (.int x4)]) (st' := [.ref a0, .int x4]) (by decide +kernel) rfl rfl ?_
    refine Go.getR fo_A_12 k0 (by decide +kernel) ?_
    refine Go.run (pc' := 18) [.iload_n 1] (ls' := [some (.ref a0), some (.int x1), some (.int x2), some (.int x3), some (.int x4)]) (st' := [.int x1, .ref (fld a0 0), .int x4]) (by decide +kernel) rfl rfl ?_
    obtain ⟨v1, e2, e⟩ := bd_inv e
    refine Go.callV (M2 := m_S_lengthOf) (a := (fld a0 0)) (as := [.int x1]) (rest := [.int x4]) (v := some (.int v1)) (h1 := h) (x_S_lengthOf hf hI (kf_1_0 k0) e2) wv_A_124 (kf_1_0 k0) kc_6 (by decide +kernel) rfl rfl ⟨⟨Nat.le_of_ble_eq_true rfl, Nat.le_of_ble_eq_true rfl⟩, ⟨Nat.le_of_ble_eq_true rfl, Nat.le_of_ble_eq_true rfl⟩⟩ (Nat.le_of_ble_eq_true rfl) ?_
    show Go l D ad aC (rmk m_A_startOfLongestFreeRow) _ m_A_startOfLongestFreeRow 21 [some (.ref a0), some (.int x1), some (.int x2), some (.int x3), some (.int x4)] [.int v1, .int x4] h 0 0
    refine Go.ic_ge (off := 44) (tgt := 65) (by decide +kernel) (by decide) (fun c3 => ?_) (fun c3 => ?_)
    · replace e := ite_t c3 e
      refine Go.run (pc' := 66) [.iconst (-1)] (ls' := [some (.ref a0), some (.int x1), some (.int x2), some (.int x3), some (.int x4)]) (st' := [.int (-1 : Int32)]) (by decide +kernel) rfl rfl ?_
      obtain rfl := Option.some.inj e
      exact Go.iret rfl (by decide) (by decide) (by decide +kernel)
    · replace e := ite_f c3 e
      refine Go.run (pc' := 28) [.aload_n 0, .iload_n 1, .iload 4] (ls' := [some (.ref a0), some (.int x1), some (.int x2), some (.int x3), some (.int x4)]) (st' := [.int x4, .int x1, .ref a0]) (by decide +kernel) rfl rfl ?_
      obtain ⟨v4, e5, e⟩ := bd_inv e
      refine Go.callV (M2 := m_A_whoStandsAt) (a := a0) (as := [.int x1, .int x4]) (rest := []) (v := some (.int v4)) (h1 := h) (x_A_whoStandsAt hf hI k0 e5) wv_A_167 k0 kc_1 (by decide +kernel) rfl rfl ⟨⟨Nat.le_of_ble_eq_true rfl, Nat.le_of_ble_eq_true rfl⟩, ⟨Nat.le_of_ble_eq_true rfl, Nat.le_of_ble_eq_true rfl⟩⟩ (Nat.le_of_ble_eq_true rfl) ?_
      show Go l D ad aC (rmk m_A_startOfLongestFreeRow) _ m_A_startOfLongestFreeRow 31 [some (.ref a0), some (.int x1), some (.int x2), some (.int x3), some (.int x4)] [.int v4] h 0 0
      refine Go.run (pc' := 32) [.iconst (-1)] (ls' := [some (.ref a0), some (.int x1), some (.int x2), some (.int x3), some (.int x4)]) (st' := [.int (-1 : Int32), .int v4]) (by decide +kernel) rfl rfl ?_
      refine Go.ic_ne (off := 9) (tgt := 41) (by decide +kernel) (by decide) (fun c6 => ?_) (fun c6 => ?_)
      · replace e := ite_f c6 e
        refine Go.run (pc' := 42) [.iconst 0] (ls' := [some (.ref a0), some (.int x1), some (.int x2), some (.int x3), some (.int x4)]) (st' := [.int (0 : Int32)]) (by decide +kernel) rfl rfl ?_
        refine Go.wk' (wks (wks (wks (wkn (wks wk0))))) ?_
        exact x_A_startOfLongestFreeRow_42 hf hI (fun kk0 e => ih kk0 e) k0 e
      · replace e := ite_t c6 e
        refine Go.run (pc' := 38) [.iload_n 3, .iconst 1, .iadd] (ls' := [some (.ref a0), some (.int x1), some (.int x2), some (.int x3), some (.int x4)]) (st' := [.int (x3 + (1 : Int32))]) (by decide +kernel) rfl rfl ?_
        refine Go.goto (off := 4) (tgt := 42) (by decide +kernel) (by decide) ?_
        refine Go.wk' (wks (wks (wks (wkn (wks wk0))))) ?_
        exact x_A_startOfLongestFreeRow_42 hf hI (fun kk0 e => ih kk0 e) k0 e
def f_A_startOfLongestFreeRow (h : HP) (a0 : Nat) (x1 : Int32) : Option (Int32) :=
  (f_A_longestFreeRow h a0 x1).bind fun v1 =>
  f_A_startOfLongestFreeRow_11 h 4096 a0 x1 v1 (0 : Int32) (0 : Int32)
set_option maxHeartbeats 1000000 in
theorem x_A_startOfLongestFreeRow {l : Launch} {D : va_G} {ad : Nat → Nat} {aC : Nat → ClassId} (hf : l.flags = flags0) (hI : Inj ad) {h : HP} {a0 : Nat} {x1 : Int32} {r : Int32} (k0 : knd a0 = 1) (e : f_A_startOfLongestFreeRow h a0 x1 = some r) : CT l D ad aC m_A_startOfLongestFreeRow [.ref a0, .int x1] h (.inl (some (.int r))) h := by
  refine CT.ofGo (by decide +kernel) rfl (Nat.le_of_ble_eq_true rfl) ?_
  unfold f_A_startOfLongestFreeRow at e
  show Go l D ad aC (rmk m_A_startOfLongestFreeRow) _ m_A_startOfLongestFreeRow 0 [some (.ref a0), some (.int x1), none, none, none] [] h 0 0
  refine Go.run (pc' := 2) [.aload_n 0, .iload_n 1] (ls' := [some (.ref a0), some (.int x1), none, none, none]) (st' := [.int x1, .ref a0]) (by decide +kernel) rfl rfl ?_
  obtain ⟨v1, e2, e⟩ := bd_inv e
  refine Go.callV (M2 := m_A_longestFreeRow) (a := a0) (as := [.int x1]) (rest := []) (v := some (.int v1)) (h1 := h) (x_A_longestFreeRow hf hI k0 e2) wv_A_170 k0 kc_1 (by decide +kernel) rfl rfl ⟨⟨Nat.le_of_ble_eq_true rfl, Nat.le_of_ble_eq_true rfl⟩, ⟨Nat.le_of_ble_eq_true rfl, Nat.le_of_ble_eq_true rfl⟩⟩ (Nat.le_of_ble_eq_true rfl) ?_
  show Go l D ad aC (rmk m_A_startOfLongestFreeRow) _ m_A_startOfLongestFreeRow 5 [some (.ref a0), some (.int x1), none, none, none] [.int v1] h 0 0
  refine Go.run (pc' := 11) [.istore_n 2, .iconst 0, .istore_n 3, .iconst 0, .istore 4] (ls' := [some (.ref a0), some (.int x1), some (.int v1), some (.int (0 : Int32)), some (.int (0 : Int32))]) (st' := []) (by decide +kernel) rfl rfl ?_
  exact x_A_startOfLongestFreeRow_11 hf hI 4096 k0 e
def f_A_allMetres_4 (h : HP)  : Nat → Nat → Int32 → Int32 → Option (Int32)
  | 0, _, _, _ => none
  | n + 1, a0, x1, x2 =>
    if (h (fld a0 0) 9) ≤ x2 then
      some x1
    else
      (f_S_lengthOf h (fld a0 0) x2).bind fun v2 =>
      f_A_allMetres_4 h n a0 (x1 + v2) (x2 + (1 : Int32))
set_option maxHeartbeats 1000000 in
theorem x_A_allMetres_4 {l : Launch} {D : va_G} {ad : Nat → Nat} {aC : Nat → ClassId} (hf : l.flags = flags0) (hI : Inj ad) {h : HP} : ∀ (n : Nat) {a0 : Nat} {x1 : Int32} {x2 : Int32} {r : Int32}, knd a0 = 1 → f_A_allMetres_4 h n a0 x1 x2 = some r → Go l D ad aC (rmk m_A_allMetres) (QM D ad aC m_A_allMetres (.inl (some (.int r))) h) m_A_allMetres 4 [some (.ref a0), some (.int x1), some (.int x2)] [] h 0 0 := by
  intro n
  induction n with
  | zero => intro a0 x1 x2 r k0 e; exact no_none e
  | succ n ih =>
    intro a0 x1 x2 r k0 e
    rw [f_A_allMetres_4] at e
    refine Go.run (pc' := 6) [.iload_n 2, .aload_n 0] (ls' := [some (.ref a0), some (.int x1), some (.int x2)]) (st' := [.ref a0, .int x2]) (by decide +kernel) rfl rfl ?_
    refine Go.getR fo_A_12 k0 (by decide +kernel) ?_
    refine Go.getI fo_A_47 (kf_1_0 k0) (by decide +kernel) ?_
    refine Go.ic_ge (off := 20) (tgt := 32) (by decide +kernel) (by decide) (fun c1 => ?_) (fun c1 => ?_)
    · replace e := ite_t c1 e
      refine Go.run (pc' := 33) [.iload_n 1] (ls' := [some (.ref a0), some (.int x1), some (.int x2)]) (st' := [.int x1]) (by decide +kernel) rfl rfl ?_
      obtain rfl := Option.some.inj e
      exact Go.iret rfl (by decide) (by decide) (by decide +kernel)
    · replace e := ite_f c1 e
      refine Go.run (pc' := 17) [.iload_n 1, .aload_n 0] (ls' := [some (.ref a0), some (.int x1), some (.int x2)]) (st' := [.ref a0, .int x1]) (by decide +kernel) rfl rfl ?_
      refine Go.getR fo_A_12 k0 (by decide +kernel) ?_
      refine Go.run (pc' := 21) [.iload_n 2] (ls' := [some (.ref a0), some (.int x1), some (.int x2)]) (st' := [.int x2, .ref (fld a0 0), .int x1]) (by decide +kernel) rfl rfl ?_
      obtain ⟨v2, e3, e⟩ := bd_inv e
      refine Go.callV (M2 := m_S_lengthOf) (a := (fld a0 0)) (as := [.int x2]) (rest := [.int x1]) (v := some (.int v2)) (h1 := h) (x_S_lengthOf hf hI (kf_1_0 k0) e3) wv_A_124 (kf_1_0 k0) kc_6 (by decide +kernel) rfl rfl ⟨⟨Nat.le_of_ble_eq_true rfl, Nat.le_of_ble_eq_true rfl⟩, ⟨Nat.le_of_ble_eq_true rfl, Nat.le_of_ble_eq_true rfl⟩⟩ (Nat.le_of_ble_eq_true rfl) ?_
      show Go l D ad aC (rmk m_A_allMetres) _ m_A_allMetres 24 [some (.ref a0), some (.int x1), some (.int x2)] [.int v2, .int x1] h 0 0
      refine Go.run (pc' := 29) [.iadd, .istore_n 1, .iinc 2 (1)] (ls' := [some (.ref a0), some (.int (x1 + v2)), some (.int (x2 + (1 : Int32)))]) (st' := []) (by decide +kernel) rfl rfl ?_
      refine Go.goto (off := -25) (tgt := 4) (by decide +kernel) (by decide) ?_
      exact ih k0 e
def f_A_allMetres (h : HP) (a0 : Nat) : Option (Int32) :=
  f_A_allMetres_4 h 4096 a0 (0 : Int32) (0 : Int32)
set_option maxHeartbeats 1000000 in
theorem x_A_allMetres {l : Launch} {D : va_G} {ad : Nat → Nat} {aC : Nat → ClassId} (hf : l.flags = flags0) (hI : Inj ad) {h : HP} {a0 : Nat} {r : Int32} (k0 : knd a0 = 1) (e : f_A_allMetres h a0 = some r) : CT l D ad aC m_A_allMetres [.ref a0] h (.inl (some (.int r))) h := by
  refine CT.ofGo (by decide +kernel) rfl (Nat.le_of_ble_eq_true rfl) ?_
  unfold f_A_allMetres at e
  show Go l D ad aC (rmk m_A_allMetres) _ m_A_allMetres 0 [some (.ref a0), none, none] [] h 0 0
  refine Go.run (pc' := 4) [.iconst 0, .istore_n 1, .iconst 0, .istore_n 2] (ls' := [some (.ref a0), some (.int (0 : Int32)), some (.int (0 : Int32))]) (st' := []) (by decide +kernel) rfl rfl ?_
  exact x_A_allMetres_4 hf hI 4096 k0 e
def f_A_allFreeMetres_4 (h : HP)  : Nat → Nat → Int32 → Int32 → Option (Int32)
  | 0, _, _, _ => none
  | n + 1, a0, x1, x2 =>
    if (h (fld a0 0) 9) ≤ x2 then
      some x1
    else
      (f_A_freeByMetres h a0 x2).bind fun v2 =>
      f_A_allFreeMetres_4 h n a0 (x1 + v2) (x2 + (1 : Int32))
set_option maxHeartbeats 1000000 in
theorem x_A_allFreeMetres_4 {l : Launch} {D : va_G} {ad : Nat → Nat} {aC : Nat → ClassId} (hf : l.flags = flags0) (hI : Inj ad) {h : HP} : ∀ (n : Nat) {a0 : Nat} {x1 : Int32} {x2 : Int32} {r : Int32}, knd a0 = 1 → f_A_allFreeMetres_4 h n a0 x1 x2 = some r → Go l D ad aC (rmk m_A_allFreeMetres) (QM D ad aC m_A_allFreeMetres (.inl (some (.int r))) h) m_A_allFreeMetres 4 [some (.ref a0), some (.int x1), some (.int x2)] [] h 0 0 := by
  intro n
  induction n with
  | zero => intro a0 x1 x2 r k0 e; exact no_none e
  | succ n ih =>
    intro a0 x1 x2 r k0 e
    rw [f_A_allFreeMetres_4] at e
    refine Go.run (pc' := 6) [.iload_n 2, .aload_n 0] (ls' := [some (.ref a0), some (.int x1), some (.int x2)]) (st' := [.ref a0, .int x2]) (by decide +kernel) rfl rfl ?_
    refine Go.getR fo_A_12 k0 (by decide +kernel) ?_
    refine Go.getI fo_A_47 (kf_1_0 k0) (by decide +kernel) ?_
    refine Go.ic_ge (off := 17) (tgt := 29) (by decide +kernel) (by decide) (fun c1 => ?_) (fun c1 => ?_)
    · replace e := ite_t c1 e
      refine Go.run (pc' := 30) [.iload_n 1] (ls' := [some (.ref a0), some (.int x1), some (.int x2)]) (st' := [.int x1]) (by decide +kernel) rfl rfl ?_
      obtain rfl := Option.some.inj e
      exact Go.iret rfl (by decide) (by decide) (by decide +kernel)
    · replace e := ite_f c1 e
      refine Go.run (pc' := 18) [.iload_n 1, .aload_n 0, .iload_n 2] (ls' := [some (.ref a0), some (.int x1), some (.int x2)]) (st' := [.int x2, .ref a0, .int x1]) (by decide +kernel) rfl rfl ?_
      obtain ⟨v2, e3, e⟩ := bd_inv e
      refine Go.callV (M2 := m_A_freeByMetres) (a := a0) (as := [.int x2]) (rest := [.int x1]) (v := some (.int v2)) (h1 := h) (x_A_freeByMetres hf hI k0 e3) wv_A_173 k0 kc_1 (by decide +kernel) rfl rfl ⟨⟨Nat.le_of_ble_eq_true rfl, Nat.le_of_ble_eq_true rfl⟩, ⟨Nat.le_of_ble_eq_true rfl, Nat.le_of_ble_eq_true rfl⟩⟩ (Nat.le_of_ble_eq_true rfl) ?_
      show Go l D ad aC (rmk m_A_allFreeMetres) _ m_A_allFreeMetres 21 [some (.ref a0), some (.int x1), some (.int x2)] [.int v2, .int x1] h 0 0
      refine Go.run (pc' := 26) [.iadd, .istore_n 1, .iinc 2 (1)] (ls' := [some (.ref a0), some (.int (x1 + v2)), some (.int (x2 + (1 : Int32)))]) (st' := []) (by decide +kernel) rfl rfl ?_
      refine Go.goto (off := -22) (tgt := 4) (by decide +kernel) (by decide) ?_
      exact ih k0 e
def f_A_allFreeMetres (h : HP) (a0 : Nat) : Option (Int32) :=
  f_A_allFreeMetres_4 h 4096 a0 (0 : Int32) (0 : Int32)
set_option maxHeartbeats 1000000 in
theorem x_A_allFreeMetres {l : Launch} {D : va_G} {ad : Nat → Nat} {aC : Nat → ClassId} (hf : l.flags = flags0) (hI : Inj ad) {h : HP} {a0 : Nat} {r : Int32} (k0 : knd a0 = 1) (e : f_A_allFreeMetres h a0 = some r) : CT l D ad aC m_A_allFreeMetres [.ref a0] h (.inl (some (.int r))) h := by
  refine CT.ofGo (by decide +kernel) rfl (Nat.le_of_ble_eq_true rfl) ?_
  unfold f_A_allFreeMetres at e
  show Go l D ad aC (rmk m_A_allFreeMetres) _ m_A_allFreeMetres 0 [some (.ref a0), none, none] [] h 0 0
  refine Go.run (pc' := 4) [.iconst 0, .istore_n 1, .iconst 0, .istore_n 2] (ls' := [some (.ref a0), some (.int (0 : Int32)), some (.int (0 : Int32))]) (st' := []) (by decide +kernel) rfl rfl ?_
  exact x_A_allFreeMetres_4 hf hI 4096 k0 e
def f_A_allPlugs_4 (h : HP)  : Nat → Nat → Int32 → Int32 → Option (Int32)
  | 0, _, _, _ => none
  | n + 1, a0, x1, x2 =>
    if (h (fld a0 0) 9) ≤ x2 then
      some x1
    else
      (f_A_plugsAt h a0 x2).bind fun v2 =>
      f_A_allPlugs_4 h n a0 (x1 + v2) (x2 + (1 : Int32))
set_option maxHeartbeats 1000000 in
theorem x_A_allPlugs_4 {l : Launch} {D : va_G} {ad : Nat → Nat} {aC : Nat → ClassId} (hf : l.flags = flags0) (hI : Inj ad) {h : HP} : ∀ (n : Nat) {a0 : Nat} {x1 : Int32} {x2 : Int32} {r : Int32}, knd a0 = 1 → f_A_allPlugs_4 h n a0 x1 x2 = some r → Go l D ad aC (rmk m_A_allPlugs) (QM D ad aC m_A_allPlugs (.inl (some (.int r))) h) m_A_allPlugs 4 [some (.ref a0), some (.int x1), some (.int x2)] [] h 0 0 := by
  intro n
  induction n with
  | zero => intro a0 x1 x2 r k0 e; exact no_none e
  | succ n ih =>
    intro a0 x1 x2 r k0 e
    rw [f_A_allPlugs_4] at e
    refine Go.run (pc' := 6) [.iload_n 2, .aload_n 0] (ls' := [some (.ref a0), some (.int x1), some (.int x2)]) (st' := [.ref a0, .int x2]) (by decide +kernel) rfl rfl ?_
    refine Go.getR fo_A_12 k0 (by decide +kernel) ?_
    refine Go.getI fo_A_47 (kf_1_0 k0) (by decide +kernel) ?_
    refine Go.ic_ge (off := 17) (tgt := 29) (by decide +kernel) (by decide) (fun c1 => ?_) (fun c1 => ?_)
    · replace e := ite_t c1 e
      refine Go.run (pc' := 30) [.iload_n 1] (ls' := [some (.ref a0), some (.int x1), some (.int x2)]) (st' := [.int x1]) (by decide +kernel) rfl rfl ?_
      obtain rfl := Option.some.inj e
      exact Go.iret rfl (by decide) (by decide) (by decide +kernel)
    · replace e := ite_f c1 e
      refine Go.run (pc' := 18) [.iload_n 1, .aload_n 0, .iload_n 2] (ls' := [some (.ref a0), some (.int x1), some (.int x2)]) (st' := [.int x2, .ref a0, .int x1]) (by decide +kernel) rfl rfl ?_
      obtain ⟨v2, e3, e⟩ := bd_inv e
      refine Go.callV (M2 := m_A_plugsAt) (a := a0) (as := [.int x2]) (rest := [.int x1]) (v := some (.int v2)) (h1 := h) (x_A_plugsAt hf hI k0 e3) wv_A_176 k0 kc_1 (by decide +kernel) rfl rfl ⟨⟨Nat.le_of_ble_eq_true rfl, Nat.le_of_ble_eq_true rfl⟩, ⟨Nat.le_of_ble_eq_true rfl, Nat.le_of_ble_eq_true rfl⟩⟩ (Nat.le_of_ble_eq_true rfl) ?_
      show Go l D ad aC (rmk m_A_allPlugs) _ m_A_allPlugs 21 [some (.ref a0), some (.int x1), some (.int x2)] [.int v2, .int x1] h 0 0
      refine Go.run (pc' := 26) [.iadd, .istore_n 1, .iinc 2 (1)] (ls' := [some (.ref a0), some (.int (x1 + v2)), some (.int (x2 + (1 : Int32)))]) (st' := []) (by decide +kernel) rfl rfl ?_
      refine Go.goto (off := -22) (tgt := 4) (by decide +kernel) (by decide) ?_
      exact ih k0 e
def f_A_allPlugs (h : HP) (a0 : Nat) : Option (Int32) :=
  f_A_allPlugs_4 h 4096 a0 (0 : Int32) (0 : Int32)
set_option maxHeartbeats 1000000 in
theorem x_A_allPlugs {l : Launch} {D : va_G} {ad : Nat → Nat} {aC : Nat → ClassId} (hf : l.flags = flags0) (hI : Inj ad) {h : HP} {a0 : Nat} {r : Int32} (k0 : knd a0 = 1) (e : f_A_allPlugs h a0 = some r) : CT l D ad aC m_A_allPlugs [.ref a0] h (.inl (some (.int r))) h := by
  refine CT.ofGo (by decide +kernel) rfl (Nat.le_of_ble_eq_true rfl) ?_
  unfold f_A_allPlugs at e
  show Go l D ad aC (rmk m_A_allPlugs) _ m_A_allPlugs 0 [some (.ref a0), none, none] [] h 0 0
  refine Go.run (pc' := 4) [.iconst 0, .istore_n 1, .iconst 0, .istore_n 2] (ls' := [some (.ref a0), some (.int (0 : Int32)), some (.int (0 : Int32))]) (st' := []) (by decide +kernel) rfl rfl ?_
  exact x_A_allPlugs_4 hf hI 4096 k0 e
