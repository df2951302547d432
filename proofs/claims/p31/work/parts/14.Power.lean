/-! printed by wip/p31/gen.py: what FairWalls$Power compute, and the rows that tie it to the machine -/
def f_W_hasFreePlug_34 (h : HP)  (a0 : Nat) (a1 : Nat) (x2 : Int32) (x3 : Int32) (s0 : Int32) : Option (Int32) :=
  if s0 = 0 then
    some (0 : Int32)
  else
    if ib ((x2 * (30 : Int32)) + x3) 120 = true then
    if ib ((x2 * (30 : Int32)) + x3) 120 = true then
    if (h (fld a1 1) ((x2 * (30 : Int32)) + x3).toNatClampNeg) ≤ (h (fld a0 0) ((x2 * (30 : Int32)) + x3).toNatClampNeg) then
      some (0 : Int32)
    else
      some (1 : Int32)
    else none
    else none
set_option maxHeartbeats 1000000 in
theorem x_W_hasFreePlug_34 {l : Launch} {D : va_G} {ad : Nat → Nat} {aC : Nat → ClassId} (hf : l.flags = flags0) (hI : Inj ad) {h : HP} {a0 : Nat} {a1 : Nat} {x2 : Int32} {x3 : Int32} {s0 : Int32} {r : Int32} (k0 : knd a0 = 4) (k1 : knd a1 = 6) (e : f_W_hasFreePlug_34 h a0 a1 x2 x3 s0 = some r) : Go l D ad aC (rmk m_W_hasFreePlug) (QM D ad aC m_W_hasFreePlug (.inl (some (.int r))) h) m_W_hasFreePlug 34 [some (.ref a0), some (.ref a1), some (.int x2), some (.int x3), none] [.int s0] h 0 0 := by
  unfold f_W_hasFreePlug_34 at e
  refine Go.run (pc' := 38) [.istore 4, .iload 4] (ls' := [some (.ref a0), some (.ref a1), some (.int x2), some (.int x3), some (.int s0)]) (st' := [.int s0]) (by decide +kernel) rfl rfl ?_
  refine Go.if_eq (off := 32) (tgt := 70) (by decide +kernel) (by decide) (fun c1 => ?_) (fun c1 => ?_)
  · replace e := ite_t c1 e
    refine Go.run (pc' := 71) [.iconst 0] (ls' := [some (.ref a0), some (.ref a1), some (.int x2), some (.int x3), some (.int s0)]) (st' := [.int (0 : Int32)]) (by decide +kernel) rfl rfl ?_
    obtain rfl := Option.some.inj e
    exact Go.zret rfl nar_z0 (by decide) (by decide) (by decide +kernel)
  · replace e := ite_f c1 e
    refine Go.run (pc' := 42) [.aload_n 0] (ls' := [some (.ref a0), some (.ref a1), some (.int x2), some (.int x3), some (.int s0)]) (st' := [.ref a0]) (by decide +kernel) rfl rfl ?_
    refine Go.getR fo_W_9 k0 (by decide +kernel) ?_
    refine Go.run (pc' := 51) [.iload_n 2, .bipush (30), .imul, .iload_n 3, .iadd] (ls' := [some (.ref a0), some (.ref a1), some (.int x2), some (.int x3), some (.int s0)]) (st' := [.int ((x2 * (30 : Int32)) + x3), .ref (fld a0 0)]) (by decide +kernel) rfl rfl ?_
    obtain ⟨g2, e⟩ := gd_inv e
    refine Go.iald (kf_4_0 k0) (al_4_0 k0) g2 (by decide +kernel) ?_
    refine Go.run (pc' := 53) [.aload_n 1] (ls' := [some (.ref a0), some (.ref a1), some (.int x2), some (.int x3), some (.int s0)]) (st' := [.ref a1, .int (h (fld a0 0) ((x2 * (30 : Int32)) + x3).toNatClampNeg)]) (by decide +kernel) rfl rfl ?_
    refine Go.getR fo_W_71 k1 (by decide +kernel) ?_
    refine Go.run (pc' := 62) [.iload_n 2, .bipush (30), .imul, .iload_n 3, .iadd] (ls' := [some (.ref a0), some (.ref a1), some (.int x2), some (.int x3), some (.int s0)]) (st' := [.int ((x2 * (30 : Int32)) + x3), .ref (fld a1 1), .int (h (fld a0 0) ((x2 * (30 : Int32)) + x3).toNatClampNeg)]) (by decide +kernel) rfl rfl ?_
    obtain ⟨g3, e⟩ := gd_inv e
    refine Go.iald (kf_6_j 1 k1 (by decide)) (al_6_j 1 k1 (by decide) rfl) g3 (by decide +kernel) ?_
    refine Go.ic_ge (off := 7) (tgt := 70) (by decide +kernel) (by decide) (fun c4 => ?_) (fun c4 => ?_)
    · replace e := ite_t c4 e
      refine Go.run (pc' := 71) [.iconst 0] (ls' := [some (.ref a0), some (.ref a1), some (.int x2), some (.int x3), some (.int s0)]) (st' := [.int (0 : Int32)]) (by decide +kernel) rfl rfl ?_
      obtain rfl := Option.some.inj e
      exact Go.zret rfl nar_z0 (by decide) (by decide) (by decide +kernel)
    · replace e := ite_f c4 e
      refine Go.run (pc' := 67) [.iconst 1] (ls' := [some (.ref a0), some (.ref a1), some (.int x2), some (.int x3), some (.int s0)]) (st' := [.int (1 : Int32)]) (by decide +kernel) rfl rfl ?_
      refine Go.goto (off := 4) (tgt := 71) (by decide +kernel) (by decide) ?_
      obtain rfl := Option.some.inj e
      exact Go.zret rfl nar_z1 (by decide) (by decide) (by decide +kernel)
def f_W_hasFreePlug_33 (h : HP)  (a0 : Nat) (a1 : Nat) (x2 : Int32) (x3 : Int32) : Option (Int32) :=
  f_W_hasFreePlug_34 h a0 a1 x2 x3 (0 : Int32)
set_option maxHeartbeats 1000000 in
theorem x_W_hasFreePlug_33 {l : Launch} {D : va_G} {ad : Nat → Nat} {aC : Nat → ClassId} (hf : l.flags = flags0) (hI : Inj ad) {h : HP} {a0 : Nat} {a1 : Nat} {x2 : Int32} {x3 : Int32} {r : Int32} (k0 : knd a0 = 4) (k1 : knd a1 = 6) (e : f_W_hasFreePlug_33 h a0 a1 x2 x3 = some r) : Go l D ad aC (rmk m_W_hasFreePlug) (QM D ad aC m_W_hasFreePlug (.inl (some (.int r))) h) m_W_hasFreePlug 33 [some (.ref a0), some (.ref a1), some (.int x2), some (.int x3), none] [] h 0 0 := by
  unfold f_W_hasFreePlug_33 at e
  refine Go.run (pc' := 34) [.iconst 0] (ls' := [some (.ref a0), some (.ref a1), some (.int x2), some (.int x3), none]) (st' := [.int (0 : Int32)]) (by decide +kernel) rfl rfl ?_
  exact x_W_hasFreePlug_34 hf hI k0 k1 e
def f_W_hasFreePlug (h : HP) (a0 : Nat) (a1 : Nat) (x2 : Int32) (x3 : Int32) : Option (Int32) :=
  if x2 < 0 then
    f_W_hasFreePlug_33 h a0 a1 x2 x3
  else
    if (4 : Int32) ≤ x2 then
      f_W_hasFreePlug_33 h a0 a1 x2 x3
    else
      if x3 < 0 then
        f_W_hasFreePlug_33 h a0 a1 x2 x3
      else
        if ib x2 4 = true then
        if (h (fld a1 0) x2.toNatClampNeg) ≤ x3 then
          f_W_hasFreePlug_33 h a0 a1 x2 x3
        else
          if (30 : Int32) ≤ x3 then
            f_W_hasFreePlug_33 h a0 a1 x2 x3
          else
            f_W_hasFreePlug_34 h a0 a1 x2 x3 (1 : Int32)
        else none
set_option maxHeartbeats 1000000 in
theorem x_W_hasFreePlug {l : Launch} {D : va_G} {ad : Nat → Nat} {aC : Nat → ClassId} (hf : l.flags = flags0) (hI : Inj ad) {h : HP} {a0 : Nat} {a1 : Nat} {x2 : Int32} {x3 : Int32} {r : Int32} (k0 : knd a0 = 4) (k1 : knd a1 = 6) (e : f_W_hasFreePlug h a0 a1 x2 x3 = some r) : CT l D ad aC m_W_hasFreePlug [.ref a0, .ref a1, .int x2, .int x3] h (.inl (some (.int r))) h := by
  refine CT.ofGo (by decide +kernel) rfl (Nat.le_of_ble_eq_true rfl) ?_
  unfold f_W_hasFreePlug at e
  show Go l D ad aC (rmk m_W_hasFreePlug) _ m_W_hasFreePlug 0 [some (.ref a0), some (.ref a1), some (.int x2), some (.int x3), none] [] h 0 0
  refine Go.run (pc' := 1) [.iload_n 2] (ls' := [some (.ref a0), some (.ref a1), some (.int x2), some (.int x3), none]) (st' := [.int x2]) (by decide +kernel) rfl rfl ?_
  refine Go.if_lt (off := 32) (tgt := 33) (by decide +kernel) (by decide) (fun c1 => ?_) (fun c1 => ?_)
  · replace e := ite_t c1 e
    exact x_W_hasFreePlug_33 hf hI k0 k1 e
  · replace e := ite_f c1 e
    refine Go.run (pc' := 6) [.iload_n 2, .iconst 4] (ls' := [some (.ref a0), some (.ref a1), some (.int x2), some (.int x3), none]) (st' := [.int (4 : Int32), .int x2]) (by decide +kernel) rfl rfl ?_
    refine Go.ic_ge (off := 27) (tgt := 33) (by decide +kernel) (by decide) (fun c2 => ?_) (fun c2 => ?_)
    · replace e := ite_t c2 e
      exact x_W_hasFreePlug_33 hf hI k0 k1 e
    · replace e := ite_f c2 e
      refine Go.run (pc' := 10) [.iload_n 3] (ls' := [some (.ref a0), some (.ref a1), some (.int x2), some (.int x3), none]) (st' := [.int x3]) (by decide +kernel) rfl rfl ?_
      refine Go.if_lt (off := 23) (tgt := 33) (by decide +kernel) (by decide) (fun c3 => ?_) (fun c3 => ?_)
      · replace e := ite_t c3 e
        exact x_W_hasFreePlug_33 hf hI k0 k1 e
      · replace e := ite_f c3 e
        refine Go.run (pc' := 15) [.iload_n 3, .aload_n 1] (ls' := [some (.ref a0), some (.ref a1), some (.int x2), some (.int x3), none]) (st' := [.ref a1, .int x3]) (by decide +kernel) rfl rfl ?_
        refine Go.getR fo_W_68 k1 (by decide +kernel) ?_
        refine Go.run (pc' := 19) [.iload_n 2] (ls' := [some (.ref a0), some (.ref a1), some (.int x2), some (.int x3), none]) (st' := [.int x2, .ref (fld a1 0), .int x3]) (by decide +kernel) rfl rfl ?_
        obtain ⟨g4, e⟩ := gd_inv e
        refine Go.iald (kf_6_j 0 k1 (by decide)) (al_6_j 0 k1 (by decide) rfl) g4 (by decide +kernel) ?_
        refine Go.ic_ge (off := 13) (tgt := 33) (by decide +kernel) (by decide) (fun c5 => ?_) (fun c5 => ?_)
        · replace e := ite_t c5 e
          exact x_W_hasFreePlug_33 hf hI k0 k1 e
        · replace e := ite_f c5 e
          refine Go.run (pc' := 26) [.iload_n 3, .bipush (30)] (ls' := [some (.ref a0), some (.ref a1), some (.int x2), some (.int x3), none]) (st' := [.int (30 : Int32), .int x3]) (by decide +kernel) rfl rfl ?_
          refine Go.ic_ge (off := 7) (tgt := 33) (by decide +kernel) (by decide) (fun c6 => ?_) (fun c6 => ?_)
          · replace e := ite_t c6 e
            exact x_W_hasFreePlug_33 hf hI k0 k1 e
          · replace e := ite_f c6 e
            refine Go.run (pc' := 30) [.iconst 1] (ls' := [some (.ref a0), some (.ref a1), some (.int x2), some (.int x3), none]) (st' := [.int (1 : Int32)]) (by decide +kernel) rfl rfl ?_
            refine Go.goto (off := 4) (tgt := 34) (by decide +kernel) (by decide) ?_
            exact x_W_hasFreePlug_34 hf hI k0 k1 e
def f_W_nearest_62 (h : HP)  : Nat → Nat → Nat → Int32 → Int32 → Int32 → Int32 → Option (Int32)
  | 0, _, _, _, _, _, _ => none
  | n + 1, a0, a1, x3, x4, x5, x6 =>
    if ib (1 : Int32) 6 = true then
    if (h (fld a1 8) (1 : Int32).toNatClampNeg) < x6 then
      some (-1 : Int32)
    else
      (f_W_hasFreePlug h a0 a1 x3 (x4 - x6)).bind fun v3 =>
      if v3 = 0 then
        (f_W_hasFreePlug h a0 a1 x3 (x5 + x6)).bind fun v6 =>
        if v6 = 0 then
          f_W_nearest_62 h n a0 a1 x3 x4 x5 (x6 + (1 : Int32))
        else
          some (x5 + x6)
      else
        some (x4 - x6)
    else none
set_option maxHeartbeats 1000000 in
theorem x_W_nearest_62 {l : Launch} {D : va_G} {ad : Nat → Nat} {aC : Nat → ClassId} (hf : l.flags = flags0) (hI : Inj ad) {h : HP} : ∀ (n : Nat) {a0 : Nat} {a1 : Nat} {x3 : Int32} {x4 : Int32} {x5 : Int32} {x6 : Int32} {r : Int32}, knd a0 = 4 → knd a1 = 6 → f_W_nearest_62 h n a0 a1 x3 x4 x5 x6 = some r → Go l D ad aC (rmk m_W_nearest) (QM D ad aC m_W_nearest (.inl (some (.int r))) h) m_W_nearest 62 [some (.ref a0), some (.ref a1), none, some (.int x3), some (.int x4), some (.int x5), some (.int x6)] [] h 0 0 := by
  intro n
  induction n with
  | zero => intro a0 a1 x3 x4 x5 x6 r k0 k1 e; exact no_none e
  | succ n ih =>
    intro a0 a1 x3 x4 x5 x6 r k0 k1 e
    rw [f_W_nearest_62] at e
    refine Go.run (pc' := 65) [.iload 6, .aload_n 1] (ls' := [some (.ref a0), some (.ref a1), none, some (.int x3), some (.int x4), some (.int x5), some (.int x6)]) (st' := [.ref a1, .int x6]) (by decide +kernel) rfl rfl ?_
    refine Go.getR fo_W_65 k1 (by decide +kernel) ?_
    refine Go.run (pc' := 69) [.iconst 1] (ls' := [some (.ref a0), some (.ref a1), none, some (.int x3), some (.int x4), some (.int x5), some (.int x6)]) (st' := [.int (1 : Int32), .ref (fld a1 8), .int x6]) (by decide +kernel) rfl rfl ?_
    obtain ⟨g1, e⟩ := gd_inv e
    refine Go.iald (kf_6_j 8 k1 (by decide)) (al_6_j 8 k1 (by decide) rfl) g1 (by decide +kernel) ?_
    refine Go.ic_gt (off := 49) (tgt := 119) (by decide +kernel) (by decide) (fun c2 => ?_) (fun c2 => ?_)
    · replace e := ite_t c2 e
      refine Go.run (pc' := 120) [.iconst (-1)] (ls' := [some (.ref a0), some (.ref a1), none, some (.int x3), some (.int x4), some (.int x5), some (.int x6)]) (st' := [.int (-1 : Int32)]) (by decide +kernel) rfl rfl ?_
      obtain rfl := Option.some.inj e
      exact Go.iret rfl (by decide) (by decide) (by decide +kernel)
    · replace e := ite_f c2 e
      refine Go.run (pc' := 81) [.aload_n 0, .aload_n 1, .iload_n 3, .iload 4, .iload 6, .isub] (ls' := [some (.ref a0), some (.ref a1), none, some (.int x3), some (.int x4), some (.int x5), some (.int x6)]) (st' := [.int (x4 - x6), .int x3, .ref a1, .ref a0]) (by decide +kernel) rfl rfl ?_
      obtain ⟨v3, e4, e⟩ := bd_inv e
      refine Go.callV (M2 := m_W_hasFreePlug) (a := a0) (as := [.ref a1, .int x3, .int (x4 - x6)]) (rest := []) (v := some (.int v3)) (h1 := h) (x_W_hasFreePlug hf hI k0 k1 e4) wv_W_61 k0 kc_4 (by decide +kernel) rfl rfl ⟨⟨Nat.le_of_ble_eq_true rfl, Nat.le_of_ble_eq_true rfl⟩, ⟨Nat.le_of_ble_eq_true rfl, Nat.le_of_ble_eq_true rfl⟩⟩ (Nat.le_of_ble_eq_true rfl) ?_
      show Go l D ad aC (rmk m_W_nearest) _ m_W_nearest 84 [some (.ref a0), some (.ref a1), none, some (.int x3), some (.int x4), some (.int x5), some (.int x6)] [.int v3] h 0 0
      refine Go.if_eq (off := 9) (tgt := 93) (by decide +kernel) (by decide) (fun c5 => ?_) (fun c5 => ?_)
      · replace e := ite_t c5 e
        refine Go.run (pc' := 101) [.aload_n 0, .aload_n 1, .iload_n 3, .iload 5, .iload 6, .iadd] (ls' := [some (.ref a0), some (.ref a1), none, some (.int x3), some (.int x4), some (.int x5), some (.int x6)]) (st' := [.int (x5 + x6), .int x3, .ref a1, .ref a0]) (by decide +kernel) rfl rfl ?_
        obtain ⟨v6, e7, e⟩ := bd_inv e
        refine Go.callV (M2 := m_W_hasFreePlug) (a := a0) (as := [.ref a1, .int x3, .int (x5 + x6)]) (rest := []) (v := some (.int v6)) (h1 := h) (x_W_hasFreePlug hf hI k0 k1 e7) wv_W_61 k0 kc_4 (by decide +kernel) rfl rfl ⟨⟨Nat.le_of_ble_eq_true rfl, Nat.le_of_ble_eq_true rfl⟩, ⟨Nat.le_of_ble_eq_true rfl, Nat.le_of_ble_eq_true rfl⟩⟩ (Nat.le_of_ble_eq_true rfl) ?_
        show Go l D ad aC (rmk m_W_nearest) _ m_W_nearest 104 [some (.ref a0), some (.ref a1), none, some (.int x3), some (.int x4), some (.int x5), some (.int x6)] [.int v6] h 0 0
        refine Go.if_eq (off := 9) (tgt := 113) (by decide +kernel) (by decide) (fun c8 => ?_) (fun c8 => ?_)
        · replace e := ite_t c8 e
          refine Go.run (pc' := 116) [.iinc 6 (1)] (ls' := [some (.ref a0), some (.ref a1), none, some (.int x3), some (.int x4), some (.int x5), some (.int (x6 + (1 : Int32)))]) (st' := []) (by decide +kernel) rfl rfl ?_
          refine Go.goto (off := -54) (tgt := 62) (by decide +kernel) (by decide) ?_
          exact ih k0 k1 e
        · replace e := ite_f c8 e
          refine Go.run (pc' := 112) [.iload 5, .iload 6, .iadd] (ls' := [some (.ref a0), some (.ref a1), none, some (.int x3), some (.int x4), some (.int x5), some (.int x6)]) (st' := [.int (x5 + x6)]) (by decide +kernel) rfl rfl ?_
          obtain rfl := Option.some.inj e
          exact Go.iret rfl (by decide) (by decide) (by decide +kernel)
      · replace e := ite_f c5 e
        refine Go.run (pc' := 92) [.iload 4, .iload 6, .isub] (ls' := [some (.ref a0), some (.ref a1), none, some (.int x3), some (.int x4), some (.int x5), some (.int x6)]) (st' := [.int (x4 - x6)]) (by decide +kernel) rfl rfl ?_
        obtain rfl := Option.some.inj e
        exact Go.iret rfl (by decide) (by decide) (by decide +kernel)
def f_W_nearest_32 (h : HP)  : Nat → Nat → Nat → Int32 → Int32 → Int32 → Int32 → Option (Int32)
  | 0, _, _, _, _, _, _ => none
  | n + 1, a0, a1, x3, x4, x5, x6 =>
    if x5 < x6 then
      f_W_nearest_62 h 4096 a0 a1 x3 x4 x5 (1 : Int32)
    else
      (f_W_hasFreePlug h a0 a1 x3 x6).bind fun v2 =>
      if v2 = 0 then
        f_W_nearest_32 h n a0 a1 x3 x4 x5 (x6 + (1 : Int32))
      else
        some x6
set_option maxHeartbeats 1000000 in
theorem x_W_nearest_32 {l : Launch} {D : va_G} {ad : Nat → Nat} {aC : Nat → ClassId} (hf : l.flags = flags0) (hI : Inj ad) {h : HP} : ∀ (n : Nat) {a0 : Nat} {a1 : Nat} {x3 : Int32} {x4 : Int32} {x5 : Int32} {x6 : Int32} {r : Int32}, knd a0 = 4 → knd a1 = 6 → f_W_nearest_32 h n a0 a1 x3 x4 x5 x6 = some r → Go l D ad aC (rmk m_W_nearest) (QM D ad aC m_W_nearest (.inl (some (.int r))) h) m_W_nearest 32 [some (.ref a0), some (.ref a1), none, some (.int x3), some (.int x4), some (.int x5), some (.int x6)] [] h 0 0 := by
  intro n
  induction n with
  | zero => intro a0 a1 x3 x4 x5 x6 r k0 k1 e; exact no_none e
  | succ n ih =>
    intro a0 a1 x3 x4 x5 x6 r k0 k1 e
    rw [f_W_nearest_32] at e
    refine Go.run (pc' := 36) [.iload 6, .iload 5] (ls' := [some (.ref a0), some (.ref a1), none, some (.int x3), some (.int x4), some (.int x5), some (.int x6)]) (st' := [.int x5, .int x6]) (by decide +kernel) rfl rfl ?_
    refine Go.ic_gt (off := 23) (tgt := 59) (by decide +kernel) (by decide) (fun c1 => ?_) (fun c1 => ?_)
    · replace e := ite_t c1 e
      refine Go.run (pc' := 62) [.iconst 1, .istore 6] (ls' := [some (.ref a0), some (.ref a1), none, some (.int x3), some (.int x4), some (.int x5), some (.int (1 : Int32))]) (st' := []) (by decide +kernel) rfl rfl ?_
      exact x_W_nearest_62 hf hI 4096 k0 k1 e
    · replace e := ite_f c1 e
      refine Go.run (pc' := 44) [.aload_n 0, .aload_n 1, .iload_n 3, .iload 6] (ls' := [some (.ref a0), some (.ref a1), none, some (.int x3), some (.int x4), some (.int x5), some (.int x6)]) (st' := [.int x6, .int x3, .ref a1, .ref a0]) (by decide +kernel) rfl rfl ?_
      obtain ⟨v2, e3, e⟩ := bd_inv e
      refine Go.callV (M2 := m_W_hasFreePlug) (a := a0) (as := [.ref a1, .int x3, .int x6]) (rest := []) (v := some (.int v2)) (h1 := h) (x_W_hasFreePlug hf hI k0 k1 e3) wv_W_61 k0 kc_4 (by decide +kernel) rfl rfl ⟨⟨Nat.le_of_ble_eq_true rfl, Nat.le_of_ble_eq_true rfl⟩, ⟨Nat.le_of_ble_eq_true rfl, Nat.le_of_ble_eq_true rfl⟩⟩ (Nat.le_of_ble_eq_true rfl) ?_
      show Go l D ad aC (rmk m_W_nearest) _ m_W_nearest 47 [some (.ref a0), some (.ref a1), none, some (.int x3), some (.int x4), some (.int x5), some (.int x6)] [.int v2] h 0 0
      refine Go.if_eq (off := 6) (tgt := 53) (by decide +kernel) (by decide) (fun c4 => ?_) (fun c4 => ?_)
      · replace e := ite_t c4 e
        refine Go.run (pc' := 56) [.iinc 6 (1)] (ls' := [some (.ref a0), some (.ref a1), none, some (.int x3), some (.int x4), some (.int x5), some (.int (x6 + (1 : Int32)))]) (st' := []) (by decide +kernel) rfl rfl ?_
        refine Go.goto (off := -24) (tgt := 32) (by decide +kernel) (by decide) ?_
        exact ih k0 k1 e
      · replace e := ite_f c4 e
        refine Go.run (pc' := 52) [.iload 6] (ls' := [some (.ref a0), some (.ref a1), none, some (.int x3), some (.int x4), some (.int x5), some (.int x6)]) (st' := [.int x6]) (by decide +kernel) rfl rfl ?_
        obtain rfl := Option.some.inj e
        exact Go.iret rfl (by decide) (by decide) (by decide +kernel)
def f_W_nearest (h : HP) (a0 : Nat) (a1 : Nat) (x2 : Int32) : Option (Int32) :=
  if ib x2 10 = true then
  if ib x2 10 = true then
  if ib x2 10 = true then
  f_W_nearest_32 h 4096 a0 a1 (h (fld a1 5) x2.toNatClampNeg) (h (fld a1 6) x2.toNatClampNeg) (((h (fld a1 6) x2.toNatClampNeg) + (h (fld a1 3) x2.toNatClampNeg)) - (1 : Int32)) (h (fld a1 6) x2.toNatClampNeg)
  else none
  else none
  else none
set_option maxHeartbeats 1000000 in
theorem x_W_nearest {l : Launch} {D : va_G} {ad : Nat → Nat} {aC : Nat → ClassId} (hf : l.flags = flags0) (hI : Inj ad) {h : HP} {a0 : Nat} {a1 : Nat} {x2 : Int32} {r : Int32} (k0 : knd a0 = 4) (k1 : knd a1 = 6) (e : f_W_nearest h a0 a1 x2 = some r) : CT l D ad aC m_W_nearest [.ref a0, .ref a1, .int x2] h (.inl (some (.int r))) h := by
  refine CT.ofGo (by decide +kernel) rfl (Nat.le_of_ble_eq_true rfl) ?_
  unfold f_W_nearest at e
  show Go l D ad aC (rmk m_W_nearest) _ m_W_nearest 0 [some (.ref a0), some (.ref a1), some (.int x2), none, none, none, none] [] h 0 0
  refine Go.run (pc' := 1) [.aload_n 1] (ls' := [some (.ref a0), some (.ref a1), some (.int x2), none, none, none, none]) (st' := [.ref a1]) (by decide +kernel) rfl rfl ?_
  refine Go.getR fo_W_41 k1 (by decide +kernel) ?_
  refine Go.run (pc' := 5) [.iload_n 2] (ls' := [some (.ref a0), some (.ref a1), some (.int x2), none, none, none, none]) (st' := [.int x2, .ref (fld a1 5)]) (by decide +kernel) rfl rfl ?_
  obtain ⟨g1, e⟩ := gd_inv e
  refine Go.iald (kf_6_j 5 k1 (by decide)) (al_6_j 5 k1 (by decide) rfl) g1 (by decide +kernel) ?_
  refine Go.run (pc' := 8) [.istore_n 3, .aload_n 1] (ls' := [some (.ref a0), some (.ref a1), some (.int x2), some (.int (h (fld a1 5) x2.toNatClampNeg)), none, none, none]) (st' := [.ref a1]) (by decide +kernel) rfl rfl ?_
  refine Go.getR fo_W_55 k1 (by decide +kernel) ?_
  refine Go.run (pc' := 12) [.iload_n 2] (ls' := [some (.ref a0), some (.ref a1), some (.int x2), some (.int (h (fld a1 5) x2.toNatClampNeg)), none, none, none]) (st' := [.int x2, .ref (fld a1 6)]) (by decide +kernel) rfl rfl ?_
  obtain ⟨g2, e⟩ := gd_inv e
  refine Go.iald (kf_6_j 6 k1 (by decide)) (al_6_j 6 k1 (by decide) rfl) g2 (by decide +kernel) ?_
  refine Go.run (pc' := 18) [.istore 4, .iload 4, .aload_n 1] (ls' := [some (.ref a0), some (.ref a1), some (.int x2), some (.int (h (fld a1 5) x2.toNatClampNeg)), some (.int (h (fld a1 6) x2.toNatClampNeg)), none, none]) (st' := [.ref a1, .int (h (fld a1 6) x2.toNatClampNeg)]) (by decide +kernel) rfl rfl ?_
  refine Go.getR fo_W_58 k1 (by decide +kernel) ?_
  refine Go.run (pc' := 22) [.iload_n 2] (ls' := [some (.ref a0), some (.ref a1), some (.int x2), some (.int (h (fld a1 5) x2.toNatClampNeg)), some (.int (h (fld a1 6) x2.toNatClampNeg)), none, none]) (st' := [.int x2, .ref (fld a1 3), .int (h (fld a1 6) x2.toNatClampNeg)]) (by decide +kernel) rfl rfl ?_
  obtain ⟨g3, e⟩ := gd_inv e
  refine Go.iald (kf_6_j 3 k1 (by decide)) (al_6_j 3 k1 (by decide) rfl) g3 (by decide +kernel) ?_
  refine Go.run (pc' := 32) [.iadd, .iconst 1, .isub, .istore 5, .iload 4, .istore 6] (ls' := [some (.ref a0), some (.ref a1), some (.int x2), some (.int (h (fld a1 5) x2.toNatClampNeg)), some (.int (h (fld a1 6) x2.toNatClampNeg)), some (.int (((h (fld a1 6) x2.toNatClampNeg) + (h (fld a1 3) x2.toNatClampNeg)) - (1 : Int32))), some (.int (h (fld a1 6) x2.toNatClampNeg))]) (st' := []) (by decide +kernel) rfl rfl ?_
  refine Go.wk' (wks (wks (wkn (wks (wks (wks (wks wk0))))))) ?_
  exact x_W_nearest_32 hf hI 4096 k0 k1 e
def f_W_serve_10  : Nat → Nat → Nat → Int32 → Int32 → Int32 → HP → Option (HP)
  | 0, _, _, _, _, _, _ => none
  | n + 1, a0, a1, x2, x3, x4, h =>
    if ib x2 10 = true then
    if (h (fld a1 4) x2.toNatClampNeg) ≤ x4 then
      some h
    else
      if (3 : Int32) ≤ x4 then
        some h
      else
        (f_W_nearest h a0 a1 x2).bind fun v4 =>
        (f_S_hasMetre h a1 x3 v4).bind fun v6 =>
        if v6 = 0 then
          some h
        else
          if ib ((x3 * (30 : Int32)) + v4) 120 = true then
          if ib ((x3 * (30 : Int32)) + v4) 120 = true then
          (some (hset h (fld a0 0) ((x3 * (30 : Int32)) + v4).toNatClampNeg ((h (fld a0 0) ((x3 * (30 : Int32)) + v4).toNatClampNeg) + (1 : Int32)))).bind fun h11 =>
          if ib ((x2 * (3 : Int32)) + x4) 30 = true then
          (some (hset h11 (fld a0 1) ((x2 * (3 : Int32)) + x4).toNatClampNeg v4)).bind fun h14 =>
          if ib x2 10 = true then
          (some (hset h14 (fld a0 2) x2.toNatClampNeg (x4 + (1 : Int32)))).bind fun h17 =>
          f_W_serve_10 n a0 a1 x2 x3 (x4 + (1 : Int32)) h17
          else none
          else none
          else none
          else none
    else none
set_option maxHeartbeats 1000000 in
theorem x_W_serve_10 {l : Launch} {D : va_G} {ad : Nat → Nat} {aC : Nat → ClassId} (hf : l.flags = flags0) (hI : Inj ad) : ∀ (n : Nat) {a0 : Nat} {a1 : Nat} {x2 : Int32} {x3 : Int32} {x4 : Int32} {h : HP} {r : HP}, knd a0 = 4 → knd a1 = 6 → f_W_serve_10 n a0 a1 x2 x3 x4 h = some r → Go l D ad aC (rmk m_W_serve) (QM D ad aC m_W_serve (.inl none) r) m_W_serve 10 [some (.ref a0), some (.ref a1), some (.int x2), some (.int x3), some (.int x4), none] [] h 0 0 := by
  intro n
  induction n with
  | zero => intro a0 a1 x2 x3 x4 h r k0 k1 e; exact no_none e
  | succ n ih =>
    intro a0 a1 x2 x3 x4 h r k0 k1 e
    rw [f_W_serve_10] at e
    refine Go.run (pc' := 13) [.iload 4, .aload_n 1] (ls' := [some (.ref a0), some (.ref a1), some (.int x2), some (.int x3), some (.int x4), none]) (st' := [.ref a1, .int x4]) (by decide +kernel) rfl rfl ?_
    refine Go.getR fo_W_44 k1 (by decide +kernel) ?_
    refine Go.run (pc' := 17) [.iload_n 2] (ls' := [some (.ref a0), some (.ref a1), some (.int x2), some (.int x3), some (.int x4), none]) (st' := [.int x2, .ref (fld a1 4), .int x4]) (by decide +kernel) rfl rfl ?_
    obtain ⟨g1, e⟩ := gd_inv e
    refine Go.iald (kf_6_j 4 k1 (by decide)) (al_6_j 4 k1 (by decide) rfl) g1 (by decide +kernel) ?_
    refine Go.ic_ge (off := 73) (tgt := 91) (by decide +kernel) (by decide) (fun c2 => ?_) (fun c2 => ?_)
    · replace e := ite_t c2 e
      obtain rfl := Option.some.inj e
      exact Go.vret rfl (by decide) (by decide) (by decide +kernel)
    · replace e := ite_f c2 e
      refine Go.run (pc' := 24) [.iload 4, .iconst 3] (ls' := [some (.ref a0), some (.ref a1), some (.int x2), some (.int x3), some (.int x4), none]) (st' := [.int (3 : Int32), .int x4]) (by decide +kernel) rfl rfl ?_
      refine Go.ic_ge (off := 67) (tgt := 91) (by decide +kernel) (by decide) (fun c3 => ?_) (fun c3 => ?_)
      · replace e := ite_t c3 e
        obtain rfl := Option.some.inj e
        exact Go.vret rfl (by decide) (by decide) (by decide +kernel)
      · replace e := ite_f c3 e
        refine Go.run (pc' := 30) [.aload_n 0, .aload_n 1, .iload_n 2] (ls' := [some (.ref a0), some (.ref a1), some (.int x2), some (.int x3), some (.int x4), none]) (st' := [.int x2, .ref a1, .ref a0]) (by decide +kernel) rfl rfl ?_
        obtain ⟨v4, e5, e⟩ := bd_inv e
        refine Go.callV (M2 := m_W_nearest) (a := a0) (as := [.ref a1, .int x2]) (rest := []) (v := some (.int v4)) (h1 := h) (x_W_nearest hf hI k0 k1 e5) wv_W_47 k0 kc_4 (by decide +kernel) rfl rfl ⟨⟨Nat.le_of_ble_eq_true rfl, Nat.le_of_ble_eq_true rfl⟩, ⟨Nat.le_of_ble_eq_true rfl, Nat.le_of_ble_eq_true rfl⟩⟩ (Nat.le_of_ble_eq_true rfl) ?_
        show Go l D ad aC (rmk m_W_serve) _ m_W_serve 33 [some (.ref a0), some (.ref a1), some (.int x2), some (.int x3), some (.int x4), none] [.int v4] h 0 0
        refine Go.run (pc' := 39) [.istore 5, .aload_n 1, .iload_n 3, .iload 5] (ls' := [some (.ref a0), some (.ref a1), some (.int x2), some (.int x3), some (.int x4), some (.int v4)]) (st' := [.int v4, .int x3, .ref a1]) (by decide +kernel) rfl rfl ?_
        obtain ⟨v6, e7, e⟩ := bd_inv e
        refine Go.callV (M2 := m_S_hasMetre) (a := a1) (as := [.int x3, .int v4]) (rest := []) (v := some (.int v6)) (h1 := h) (x_S_hasMetre hf hI k1 e7) wv_W_51 k1 kc_6 (by decide +kernel) rfl rfl ⟨⟨Nat.le_of_ble_eq_true rfl, Nat.le_of_ble_eq_true rfl⟩, ⟨Nat.le_of_ble_eq_true rfl, Nat.le_of_ble_eq_true rfl⟩⟩ (Nat.le_of_ble_eq_true rfl) ?_
        show Go l D ad aC (rmk m_W_serve) _ m_W_serve 42 [some (.ref a0), some (.ref a1), some (.int x2), some (.int x3), some (.int x4), some (.int v4)] [.int v6] h 0 0
        refine Go.if_ne (off := 4) (tgt := 46) (by decide +kernel) (by decide) (fun c8 => ?_) (fun c8 => ?_)
        · replace e := ite_f c8 e
          refine Go.run (pc' := 47) [.aload_n 0] (ls' := [some (.ref a0), some (.ref a1), some (.int x2), some (.int x3), some (.int x4), some (.int v4)]) (st' := [.ref a0]) (by decide +kernel) rfl rfl ?_
          refine Go.getR fo_W_9 k0 (by decide +kernel) ?_
          refine Go.run (pc' := 58) [.iload_n 3, .bipush (30), .imul, .iload 5, .iadd, .dup2] (ls' := [some (.ref a0), some (.ref a1), some (.int x2), some (.int x3), some (.int x4), some (.int v4)]) (st' := [.int ((x3 * (30 : Int32)) + v4), .ref (fld a0 0), .int ((x3 * (30 : Int32)) + v4), .ref (fld a0 0)]) (by decide +kernel) rfl rfl ?_
          obtain ⟨g9, e⟩ := gd_inv e
          refine Go.iald (kf_4_0 k0) (al_4_0 k0) g9 (by decide +kernel) ?_
          refine Go.run (pc' := 61) [.iconst 1, .iadd] (ls' := [some (.ref a0), some (.ref a1), some (.int x2), some (.int x3), some (.int x4), some (.int v4)]) (st' := [.int ((h (fld a0 0) ((x3 * (30 : Int32)) + v4).toNatClampNeg) + (1 : Int32)), .int ((x3 * (30 : Int32)) + v4), .ref (fld a0 0)]) (by decide +kernel) rfl rfl ?_
          obtain ⟨g10, e⟩ := gd_inv e
          refine Go.iast hI (kf_4_0 k0) (al_4_0 k0) g10 (by decide +kernel) ?_
          obtain ⟨h11, q12, e⟩ := bd_inv e
          refine Go.eqH (Option.some.inj q12) ?_
          refine Go.run (pc' := 63) [.aload_n 0] (ls' := [some (.ref a0), some (.ref a1), some (.int x2), some (.int x3), some (.int x4), some (.int v4)]) (st' := [.ref a0]) (by decide +kernel) rfl rfl ?_
          refine Go.getR fo_W_15 k0 (by decide +kernel) ?_
          refine Go.run (pc' := 74) [.iload_n 2, .iconst 3, .imul, .iload 4, .iadd, .iload 5] (ls' := [some (.ref a0), some (.ref a1), some (.int x2), some (.int x3), some (.int x4), some (.int v4)]) (st' := [.int v4, .int ((x2 * (3 : Int32)) + x4), .ref (fld a0 1)]) (by decide +kernel) rfl rfl ?_
          obtain ⟨g13, e⟩ := gd_inv e
          refine Go.iast hI (kf_4_1 k0) (al_4_1 k0) g13 (by decide +kernel) ?_
          obtain ⟨h14, q15, e⟩ := bd_inv e
          refine Go.eqH (Option.some.inj q15) ?_
          refine Go.run (pc' := 76) [.aload_n 0] (ls' := [some (.ref a0), some (.ref a1), some (.int x2), some (.int x3), some (.int x4), some (.int v4)]) (st' := [.ref a0]) (by decide +kernel) rfl rfl ?_
          refine Go.getR fo_W_18 k0 (by decide +kernel) ?_
          refine Go.run (pc' := 84) [.iload_n 2, .iload 4, .iconst 1, .iadd] (ls' := [some (.ref a0), some (.ref a1), some (.int x2), some (.int x3), some (.int x4), some (.int v4)]) (st' := [.int (x4 + (1 : Int32)), .int x2, .ref (fld a0 2)]) (by decide +kernel) rfl rfl ?_
          obtain ⟨g16, e⟩ := gd_inv e
          refine Go.iast hI (kf_4_2 k0) (al_4_2 k0) g16 (by decide +kernel) ?_
          obtain ⟨h17, q18, e⟩ := bd_inv e
          refine Go.eqH (Option.some.inj q18) ?_
          refine Go.run (pc' := 88) [.iinc 4 (1)] (ls' := [some (.ref a0), some (.ref a1), some (.int x2), some (.int x3), some (.int (x4 + (1 : Int32))), some (.int v4)]) (st' := []) (by decide +kernel) rfl rfl ?_
          refine Go.goto (off := -78) (tgt := 10) (by decide +kernel) (by decide) ?_
          refine Go.wk' (wks (wks (wks (wks (wks (wkn wk0)))))) ?_
          exact ih k0 k1 e
        · replace e := ite_t c8 e
          obtain rfl := Option.some.inj e
          exact Go.vret rfl (by decide) (by decide) (by decide +kernel)
def f_W_serve (h : HP) (a0 : Nat) (a1 : Nat) (x2 : Int32) : Option (HP) :=
  if ib x2 10 = true then
  f_W_serve_10 4096 a0 a1 x2 (h (fld a1 5) x2.toNatClampNeg) (0 : Int32) h
  else none
set_option maxHeartbeats 1000000 in
theorem x_W_serve {l : Launch} {D : va_G} {ad : Nat → Nat} {aC : Nat → ClassId} (hf : l.flags = flags0) (hI : Inj ad) {h : HP} {a0 : Nat} {a1 : Nat} {x2 : Int32} {r : HP} (k0 : knd a0 = 4) (k1 : knd a1 = 6) (e : f_W_serve h a0 a1 x2 = some r) : CT l D ad aC m_W_serve [.ref a0, .ref a1, .int x2] h (.inl none) r := by
  refine CT.ofGo (by decide +kernel) rfl (Nat.le_of_ble_eq_true rfl) ?_
  unfold f_W_serve at e
  show Go l D ad aC (rmk m_W_serve) _ m_W_serve 0 [some (.ref a0), some (.ref a1), some (.int x2), none, none, none] [] h 0 0
  refine Go.run (pc' := 1) [.aload_n 1] (ls' := [some (.ref a0), some (.ref a1), some (.int x2), none, none, none]) (st' := [.ref a1]) (by decide +kernel) rfl rfl ?_
  refine Go.getR fo_W_41 k1 (by decide +kernel) ?_
  refine Go.run (pc' := 5) [.iload_n 2] (ls' := [some (.ref a0), some (.ref a1), some (.int x2), none, none, none]) (st' := [.int x2, .ref (fld a1 5)]) (by decide +kernel) rfl rfl ?_
  obtain ⟨g1, e⟩ := gd_inv e
  refine Go.iald (kf_6_j 5 k1 (by decide)) (al_6_j 5 k1 (by decide) rfl) g1 (by decide +kernel) ?_
  refine Go.run (pc' := 10) [.istore_n 3, .iconst 0, .istore 4] (ls' := [some (.ref a0), some (.ref a1), some (.int x2), some (.int (h (fld a1 5) x2.toNatClampNeg)), some (.int (0 : Int32)), none]) (st' := []) (by decide +kernel) rfl rfl ?_
  exact x_W_serve_10 hf hI 4096 k0 k1 e
def f_W_shareOut_46 (k18_ : Nat → Nat → Int32 → HP → Option (HP)) (a0 : Nat) (a1 : Nat) (x2 : Int32) (h : HP) : Option (HP) :=
  k18_ a0 a1 (x2 + (1 : Int32)) h
set_option maxHeartbeats 1000000 in
theorem x_W_shareOut_46 {l : Launch} {D : va_G} {ad : Nat → Nat} {aC : Nat → ClassId} (hf : l.flags = flags0) (hI : Inj ad) {k18_ : Nat → Nat → Int32 → HP → Option (HP)} (K18_ : ∀ {a0 : Nat} {a1 : Nat} {x2 : Int32} {h : HP} {r : HP}, knd a0 = 4 → knd a1 = 6 → k18_ a0 a1 x2 h = some r → Go l D ad aC (rmk m_W_shareOut) (QM D ad aC m_W_shareOut (.inl none) r) m_W_shareOut 18 [some (.ref a0), some (.ref a1), some (.int x2)] [] h 0 0) {a0 : Nat} {a1 : Nat} {x2 : Int32} {h : HP} {r : HP} (k0 : knd a0 = 4) (k1 : knd a1 = 6) (e : f_W_shareOut_46 k18_ a0 a1 x2 h = some r) : Go l D ad aC (rmk m_W_shareOut) (QM D ad aC m_W_shareOut (.inl none) r) m_W_shareOut 46 [some (.ref a0), some (.ref a1), some (.int x2)] [] h 0 0 := by
  unfold f_W_shareOut_46 at e
  refine Go.run (pc' := 49) [.iinc 2 (1)] (ls' := [some (.ref a0), some (.ref a1), some (.int (x2 + (1 : Int32)))]) (st' := []) (by decide +kernel) rfl rfl ?_
  refine Go.goto (off := -31) (tgt := 18) (by decide +kernel) (by decide) ?_
  exact K18_ k0 k1 e
def f_W_shareOut_18  : Nat → Nat → Nat → Int32 → HP → Option (HP)
  | 0, _, _, _, _ => none
  | n + 1, a0, a1, x2, h =>
    if (h a1 10) ≤ x2 then
      some h
    else
      if (10 : Int32) ≤ x2 then
        some h
      else
        (f_S_stands h a1 x2).bind fun v3 =>
        if v3 = 0 then
          f_W_shareOut_46 (f_W_shareOut_18 n) a0 a1 x2 h
        else
          (f_W_serve h a0 a1 x2).bind fun v6 =>
          f_W_shareOut_46 (f_W_shareOut_18 n) a0 a1 x2 v6
set_option maxHeartbeats 1000000 in
theorem x_W_shareOut_18 {l : Launch} {D : va_G} {ad : Nat → Nat} {aC : Nat → ClassId} (hf : l.flags = flags0) (hI : Inj ad) : ∀ (n : Nat) {a0 : Nat} {a1 : Nat} {x2 : Int32} {h : HP} {r : HP}, knd a0 = 4 → knd a1 = 6 → f_W_shareOut_18 n a0 a1 x2 h = some r → Go l D ad aC (rmk m_W_shareOut) (QM D ad aC m_W_shareOut (.inl none) r) m_W_shareOut 18 [some (.ref a0), some (.ref a1), some (.int x2)] [] h 0 0 := by
  intro n
  induction n with
  | zero => intro a0 a1 x2 h r k0 k1 e; exact no_none e
  | succ n ih =>
    intro a0 a1 x2 h r k0 k1 e
    rw [f_W_shareOut_18] at e
    refine Go.run (pc' := 20) [.iload_n 2, .aload_n 1] (ls' := [some (.ref a0), some (.ref a1), some (.int x2)]) (st' := [.ref a1, .int x2]) (by decide +kernel) rfl rfl ?_
    refine Go.getI fo_W_27 k1 (by decide +kernel) ?_
    refine Go.ic_ge (off := 29) (tgt := 52) (by decide +kernel) (by decide) (fun c1 => ?_) (fun c1 => ?_)
    · replace e := ite_t c1 e
      obtain rfl := Option.some.inj e
      exact Go.vret rfl (by decide) (by decide) (by decide +kernel)
    · replace e := ite_f c1 e
      refine Go.run (pc' := 29) [.iload_n 2, .bipush (10)] (ls' := [some (.ref a0), some (.ref a1), some (.int x2)]) (st' := [.int (10 : Int32), .int x2]) (by decide +kernel) rfl rfl ?_
      refine Go.ic_ge (off := 23) (tgt := 52) (by decide +kernel) (by decide) (fun c2 => ?_) (fun c2 => ?_)
      · replace e := ite_t c2 e
        obtain rfl := Option.some.inj e
        exact Go.vret rfl (by decide) (by decide) (by decide +kernel)
      · replace e := ite_f c2 e
        refine Go.run (pc' := 34) [.aload_n 1, .iload_n 2] (ls' := [some (.ref a0), some (.ref a1), some (.int x2)]) (st' := [.int x2, .ref a1]) (by decide +kernel) rfl rfl ?_
        obtain ⟨v3, e4, e⟩ := bd_inv e
        refine Go.callV (M2 := m_S_stands) (a := a1) (as := [.int x2]) (rest := []) (v := some (.int v3)) (h1 := h) (x_S_stands hf hI k1 e4) wv_W_33 k1 kc_6 (by decide +kernel) rfl rfl ⟨⟨Nat.le_of_ble_eq_true rfl, Nat.le_of_ble_eq_true rfl⟩, ⟨Nat.le_of_ble_eq_true rfl, Nat.le_of_ble_eq_true rfl⟩⟩ (Nat.le_of_ble_eq_true rfl) ?_
        show Go l D ad aC (rmk m_W_shareOut) _ m_W_shareOut 37 [some (.ref a0), some (.ref a1), some (.int x2)] [.int v3] h 0 0
        refine Go.if_eq (off := 9) (tgt := 46) (by decide +kernel) (by decide) (fun c5 => ?_) (fun c5 => ?_)
        · replace e := ite_t c5 e
          exact x_W_shareOut_46 hf hI (fun kk0 kk1 e => ih kk0 kk1 e) k0 k1 e
        · replace e := ite_f c5 e
          refine Go.run (pc' := 43) [.aload_n 0, .aload_n 1, .iload_n 2] (ls' := [some (.ref a0), some (.ref a1), some (.int x2)]) (st' := [.int x2, .ref a1, .ref a0]) (by decide +kernel) rfl rfl ?_
          obtain ⟨v6, e7, e⟩ := bd_inv e
          refine Go.callV (M2 := m_W_serve) (a := a0) (as := [.ref a1, .int x2]) (rest := []) (v := none) (h1 := v6) (x_W_serve hf hI k0 k1 e7) wv_W_37 k0 kc_4 (by decide +kernel) rfl rfl ⟨⟨Nat.le_of_ble_eq_true rfl, Nat.le_of_ble_eq_true rfl⟩, ⟨Nat.le_of_ble_eq_true rfl, Nat.le_of_ble_eq_true rfl⟩⟩ (Nat.le_of_ble_eq_true rfl) ?_
          show Go l D ad aC (rmk m_W_shareOut) _ m_W_shareOut 46 [some (.ref a0), some (.ref a1), some (.int x2)] [] v6 0 0
          exact x_W_shareOut_46 hf hI (fun kk0 kk1 e => ih kk0 kk1 e) k0 k1 e
def f_W_shareOut (h : HP) (a0 : Nat) (a1 : Nat) : Option (HP) :=
  (f_R_fill h (fld a0 0) (0 : Int32)).bind fun v1 =>
  (f_R_fill v1 (fld a0 2) (0 : Int32)).bind fun v3 =>
  f_W_shareOut_18 4096 a0 a1 (0 : Int32) v3
set_option maxHeartbeats 1000000 in
theorem x_W_shareOut {l : Launch} {D : va_G} {ad : Nat → Nat} {aC : Nat → ClassId} (hf : l.flags = flags0) (hI : Inj ad) {h : HP} {a0 : Nat} {a1 : Nat} {r : HP} (k0 : knd a0 = 4) (k1 : knd a1 = 6) (e : f_W_shareOut h a0 a1 = some r) : CT l D ad aC m_W_shareOut [.ref a0, .ref a1] h (.inl none) r := by
  refine CT.ofGo (by decide +kernel) rfl (Nat.le_of_ble_eq_true rfl) ?_
  unfold f_W_shareOut at e
  show Go l D ad aC (rmk m_W_shareOut) _ m_W_shareOut 0 [some (.ref a0), some (.ref a1), none] [] h 0 0
  refine Go.run (pc' := 1) [.aload_n 0] (ls' := [some (.ref a0), some (.ref a1), none]) (st' := [.ref a0]) (by decide +kernel) rfl rfl ?_
  refine Go.getR fo_W_9 k0 (by decide +kernel) ?_
  refine Go.run (pc' := 5) [.iconst 0] (ls' := [some (.ref a0), some (.ref a1), none]) (st' := [.int (0 : Int32), .ref (fld a0 0)]) (by decide +kernel) rfl rfl ?_
  obtain ⟨v1, e2, e⟩ := bd_inv e
  refine Go.callS (M2 := m_R_fill) (as := [.ref (fld a0 0), .int (0 : Int32)]) (rest := []) (v := none) (h1 := v1) (x_R_fill hf hI (kf_4_0 k0) (al_4_0 k0) e2) ws_W_21 (by decide +kernel) rfl rfl ⟨⟨Nat.le_of_ble_eq_true rfl, Nat.le_of_ble_eq_true rfl⟩, ⟨Nat.le_of_ble_eq_true rfl, Nat.le_of_ble_eq_true rfl⟩⟩ (Nat.le_of_ble_eq_true rfl) ?_
  show Go l D ad aC (rmk m_W_shareOut) _ m_W_shareOut 8 [some (.ref a0), some (.ref a1), none] [] v1 0 0
  refine Go.run (pc' := 9) [.aload_n 0] (ls' := [some (.ref a0), some (.ref a1), none]) (st' := [.ref a0]) (by decide +kernel) rfl rfl ?_
  refine Go.getR fo_W_18 k0 (by decide +kernel) ?_
  refine Go.run (pc' := 13) [.iconst 0] (ls' := [some (.ref a0), some (.ref a1), none]) (st' := [.int (0 : Int32), .ref (fld a0 2)]) (by decide +kernel) rfl rfl ?_
  obtain ⟨v3, e4, e⟩ := bd_inv e
  refine Go.callS (M2 := m_R_fill) (as := [.ref (fld a0 2), .int (0 : Int32)]) (rest := []) (v := none) (h1 := v3) (x_R_fill hf hI (kf_4_2 k0) (al_4_2 k0) e4) ws_W_21 (by decide +kernel) rfl rfl ⟨⟨Nat.le_of_ble_eq_true rfl, Nat.le_of_ble_eq_true rfl⟩, ⟨Nat.le_of_ble_eq_true rfl, Nat.le_of_ble_eq_true rfl⟩⟩ (Nat.le_of_ble_eq_true rfl) ?_
  show Go l D ad aC (rmk m_W_shareOut) _ m_W_shareOut 16 [some (.ref a0), some (.ref a1), none] [] v3 0 0
  refine Go.run (pc' := 18) [.iconst 0, .istore_n 2] (ls' := [some (.ref a0), some (.ref a1), some (.int (0 : Int32))]) (st' := []) (by decide +kernel) rfl rfl ?_
  exact x_W_shareOut_18 hf hI 4096 k0 k1 e
def f_W_takenFrom (h : HP) (a0 : Nat) (x1 : Int32) (x2 : Int32) : Option (Int32) :=
  (f_F_inRange h x1 (0 : Int32) (3 : Int32)).bind fun v1 =>
  if v1 = 0 then
    some (0 : Int32)
  else
    (f_F_inRange h x2 (0 : Int32) (29 : Int32)).bind fun v4 =>
    if v4 = 0 then
      some (0 : Int32)
    else
      if ib ((x1 * (30 : Int32)) + x2) 120 = true then
      some (h (fld a0 0) ((x1 * (30 : Int32)) + x2).toNatClampNeg)
      else none
set_option maxHeartbeats 1000000 in
theorem x_W_takenFrom {l : Launch} {D : va_G} {ad : Nat → Nat} {aC : Nat → ClassId} (hf : l.flags = flags0) (hI : Inj ad) {h : HP} {a0 : Nat} {x1 : Int32} {x2 : Int32} {r : Int32} (k0 : knd a0 = 4) (e : f_W_takenFrom h a0 x1 x2 = some r) : CT l D ad aC m_W_takenFrom [.ref a0, .int x1, .int x2] h (.inl (some (.int r))) h := by
  refine CT.ofGo (by decide +kernel) rfl (Nat.le_of_ble_eq_true rfl) ?_
  unfold f_W_takenFrom at e
  show Go l D ad aC (rmk m_W_takenFrom) _ m_W_takenFrom 0 [some (.ref a0), some (.int x1), some (.int x2)] [] h 0 0
  refine Go.run (pc' := 3) [.iload_n 1, .iconst 0, .iconst 3] (ls' := [some (.ref a0), some (.int x1), some (.int x2)]) (st' := [.int (3 : Int32), .int (0 : Int32), .int x1]) (by decide +kernel) rfl rfl ?_
  obtain ⟨v1, e2, e⟩ := bd_inv e
  refine Go.callN (M2 := m_F_inRange) (as := [.int x1, .int (0 : Int32), .int (3 : Int32)]) (rest := []) (v := some (.int v1)) (h1 := h) (x_F_inRange hf hI  e2) wn_W_74 (by decide +kernel) rfl rfl ⟨⟨Nat.le_of_ble_eq_true rfl, Nat.le_of_ble_eq_true rfl⟩, ⟨Nat.le_of_ble_eq_true rfl, Nat.le_of_ble_eq_true rfl⟩⟩ (Nat.le_of_ble_eq_true rfl) ?_
  show Go l D ad aC (rmk m_W_takenFrom) _ m_W_takenFrom 6 [some (.ref a0), some (.int x1), some (.int x2)] [.int v1] h 0 0
  refine Go.if_eq (off := 27) (tgt := 33) (by decide +kernel) (by decide) (fun c3 => ?_) (fun c3 => ?_)
  · replace e := ite_t c3 e
    refine Go.run (pc' := 34) [.iconst 0] (ls' := [some (.ref a0), some (.int x1), some (.int x2)]) (st' := [.int (0 : Int32)]) (by decide +kernel) rfl rfl ?_
    obtain rfl := Option.some.inj e
    exact Go.iret rfl (by decide) (by decide) (by decide +kernel)
  · replace e := ite_f c3 e
    refine Go.run (pc' := 13) [.iload_n 2, .iconst 0, .bipush (29)] (ls' := [some (.ref a0), some (.int x1), some (.int x2)]) (st' := [.int (29 : Int32), .int (0 : Int32), .int x2]) (by decide +kernel) rfl rfl ?_
    obtain ⟨v4, e5, e⟩ := bd_inv e
    refine Go.callN (M2 := m_F_inRange) (as := [.int x2, .int (0 : Int32), .int (29 : Int32)]) (rest := []) (v := some (.int v4)) (h1 := h) (x_F_inRange hf hI  e5) wn_W_74 (by decide +kernel) rfl rfl ⟨⟨Nat.le_of_ble_eq_true rfl, Nat.le_of_ble_eq_true rfl⟩, ⟨Nat.le_of_ble_eq_true rfl, Nat.le_of_ble_eq_true rfl⟩⟩ (Nat.le_of_ble_eq_true rfl) ?_
    show Go l D ad aC (rmk m_W_takenFrom) _ m_W_takenFrom 16 [some (.ref a0), some (.int x1), some (.int x2)] [.int v4] h 0 0
    refine Go.if_eq (off := 17) (tgt := 33) (by decide +kernel) (by decide) (fun c6 => ?_) (fun c6 => ?_)
    · replace e := ite_t c6 e
      refine Go.run (pc' := 34) [.iconst 0] (ls' := [some (.ref a0), some (.int x1), some (.int x2)]) (st' := [.int (0 : Int32)]) (by decide +kernel) rfl rfl ?_
      obtain rfl := Option.some.inj e
      exact Go.iret rfl (by decide) (by decide) (by decide +kernel)
    · replace e := ite_f c6 e
      refine Go.run (pc' := 20) [.aload_n 0] (ls' := [some (.ref a0), some (.int x1), some (.int x2)]) (st' := [.ref a0]) (by decide +kernel) rfl rfl ?_
      refine Go.getR fo_W_9 k0 (by decide +kernel) ?_
      refine Go.run (pc' := 29) [.iload_n 1, .bipush (30), .imul, .iload_n 2, .iadd] (ls' := [some (.ref a0), some (.int x1), some (.int x2)]) (st' := [.int ((x1 * (30 : Int32)) + x2), .ref (fld a0 0)]) (by decide +kernel) rfl rfl ?_
      obtain ⟨g7, e⟩ := gd_inv e
      refine Go.iald (kf_4_0 k0) (al_4_0 k0) g7 (by decide +kernel) ?_
      refine Go.goto (off := 4) (tgt := 34) (by decide +kernel) (by decide) ?_
      obtain rfl := Option.some.inj e
      exact Go.iret rfl (by decide) (by decide) (by decide +kernel)
def f_W_plugsHad (h : HP) (a0 : Nat) (x1 : Int32) : Option (Int32) :=
  (f_F_inRange h x1 (0 : Int32) (9 : Int32)).bind fun v1 =>
  if v1 = 0 then
    some (0 : Int32)
  else
    if ib x1 10 = true then
    some (h (fld a0 2) x1.toNatClampNeg)
    else none
set_option maxHeartbeats 1000000 in
theorem x_W_plugsHad {l : Launch} {D : va_G} {ad : Nat → Nat} {aC : Nat → ClassId} (hf : l.flags = flags0) (hI : Inj ad) {h : HP} {a0 : Nat} {x1 : Int32} {r : Int32} (k0 : knd a0 = 4) (e : f_W_plugsHad h a0 x1 = some r) : CT l D ad aC m_W_plugsHad [.ref a0, .int x1] h (.inl (some (.int r))) h := by
  refine CT.ofGo (by decide +kernel) rfl (Nat.le_of_ble_eq_true rfl) ?_
  unfold f_W_plugsHad at e
  show Go l D ad aC (rmk m_W_plugsHad) _ m_W_plugsHad 0 [some (.ref a0), some (.int x1)] [] h 0 0
  refine Go.run (pc' := 4) [.iload_n 1, .iconst 0, .bipush (9)] (ls' := [some (.ref a0), some (.int x1)]) (st' := [.int (9 : Int32), .int (0 : Int32), .int x1]) (by decide +kernel) rfl rfl ?_
  obtain ⟨v1, e2, e⟩ := bd_inv e
  refine Go.callN (M2 := m_F_inRange) (as := [.int x1, .int (0 : Int32), .int (9 : Int32)]) (rest := []) (v := some (.int v1)) (h1 := h) (x_F_inRange hf hI  e2) wn_W_74 (by decide +kernel) rfl rfl ⟨⟨Nat.le_of_ble_eq_true rfl, Nat.le_of_ble_eq_true rfl⟩, ⟨Nat.le_of_ble_eq_true rfl, Nat.le_of_ble_eq_true rfl⟩⟩ (Nat.le_of_ble_eq_true rfl) ?_
  show Go l D ad aC (rmk m_W_plugsHad) _ m_W_plugsHad 7 [some (.ref a0), some (.int x1)] [.int v1] h 0 0
  refine Go.if_eq (off := 12) (tgt := 19) (by decide +kernel) (by decide) (fun c3 => ?_) (fun c3 => ?_)
  · replace e := ite_t c3 e
    refine Go.run (pc' := 20) [.iconst 0] (ls' := [some (.ref a0), some (.int x1)]) (st' := [.int (0 : Int32)]) (by decide +kernel) rfl rfl ?_
    obtain rfl := Option.some.inj e
    exact Go.iret rfl (by decide) (by decide) (by decide +kernel)
  · replace e := ite_f c3 e
    refine Go.run (pc' := 11) [.aload_n 0] (ls' := [some (.ref a0), some (.int x1)]) (st' := [.ref a0]) (by decide +kernel) rfl rfl ?_
    refine Go.getR fo_W_18 k0 (by decide +kernel) ?_
    refine Go.run (pc' := 15) [.iload_n 1] (ls' := [some (.ref a0), some (.int x1)]) (st' := [.int x1, .ref (fld a0 2)]) (by decide +kernel) rfl rfl ?_
    obtain ⟨g4, e⟩ := gd_inv e
    refine Go.iald (kf_4_2 k0) (al_4_2 k0) g4 (by decide +kernel) ?_
    refine Go.goto (off := 4) (tgt := 20) (by decide +kernel) (by decide) ?_
    obtain rfl := Option.some.inj e
    exact Go.iret rfl (by decide) (by decide) (by decide +kernel)
def f_W_metreOfPlug_23 (h : HP)  (a0 : Nat) (x1 : Int32) (x2 : Int32) (s0 : Int32) : Option (Int32) :=
  if s0 = 0 then
    some (-1 : Int32)
  else
    if ib ((x1 * (3 : Int32)) + x2) 30 = true then
    some (h (fld a0 1) ((x1 * (3 : Int32)) + x2).toNatClampNeg)
    else none
set_option maxHeartbeats 1000000 in
theorem x_W_metreOfPlug_23 {l : Launch} {D : va_G} {ad : Nat → Nat} {aC : Nat → ClassId} (hf : l.flags = flags0) (hI : Inj ad) {h : HP} {a0 : Nat} {x1 : Int32} {x2 : Int32} {s0 : Int32} {r : Int32} (k0 : knd a0 = 4) (e : f_W_metreOfPlug_23 h a0 x1 x2 s0 = some r) : Go l D ad aC (rmk m_W_metreOfPlug) (QM D ad aC m_W_metreOfPlug (.inl (some (.int r))) h) m_W_metreOfPlug 23 [some (.ref a0), some (.int x1), some (.int x2), none] [.int s0] h 0 0 := by
  unfold f_W_metreOfPlug_23 at e
  refine Go.run (pc' := 25) [.istore_n 3, .iload_n 3] (ls' := [some (.ref a0), some (.int x1), some (.int x2), some (.int s0)]) (st' := [.int s0]) (by decide +kernel) rfl rfl ?_
  refine Go.if_eq (off := 16) (tgt := 41) (by decide +kernel) (by decide) (fun c1 => ?_) (fun c1 => ?_)
  · replace e := ite_t c1 e
    refine Go.run (pc' := 42) [.iconst (-1)] (ls' := [some (.ref a0), some (.int x1), some (.int x2), some (.int s0)]) (st' := [.int (-1 : Int32)]) (by decide +kernel) rfl rfl ?_
    obtain rfl := Option.some.inj e
    exact Go.iret rfl (by decide) (by decide) (by decide +kernel)
  · replace e := ite_f c1 e
    refine Go.run (pc' := 29) [.aload_n 0] (ls' := [some (.ref a0), some (.int x1), some (.int x2), some (.int s0)]) (st' := [.ref a0]) (by decide +kernel) rfl rfl ?_
    refine Go.getR fo_W_15 k0 (by decide +kernel) ?_
    refine Go.run (pc' := 37) [.iload_n 1, .iconst 3, .imul, .iload_n 2, .iadd] (ls' := [some (.ref a0), some (.int x1), some (.int x2), some (.int s0)]) (st' := [.int ((x1 * (3 : Int32)) + x2), .ref (fld a0 1)]) (by decide +kernel) rfl rfl ?_
    obtain ⟨g2, e⟩ := gd_inv e
    refine Go.iald (kf_4_1 k0) (al_4_1 k0) g2 (by decide +kernel) ?_
    refine Go.goto (off := 4) (tgt := 42) (by decide +kernel) (by decide) ?_
    obtain rfl := Option.some.inj e
    exact Go.iret rfl (by decide) (by decide) (by decide +kernel)
def f_W_metreOfPlug_22 (h : HP)  (a0 : Nat) (x1 : Int32) (x2 : Int32) : Option (Int32) :=
  f_W_metreOfPlug_23 h a0 x1 x2 (0 : Int32)
set_option maxHeartbeats 1000000 in
theorem x_W_metreOfPlug_22 {l : Launch} {D : va_G} {ad : Nat → Nat} {aC : Nat → ClassId} (hf : l.flags = flags0) (hI : Inj ad) {h : HP} {a0 : Nat} {x1 : Int32} {x2 : Int32} {r : Int32} (k0 : knd a0 = 4) (e : f_W_metreOfPlug_22 h a0 x1 x2 = some r) : Go l D ad aC (rmk m_W_metreOfPlug) (QM D ad aC m_W_metreOfPlug (.inl (some (.int r))) h) m_W_metreOfPlug 22 [some (.ref a0), some (.int x1), some (.int x2), none] [] h 0 0 := by
  unfold f_W_metreOfPlug_22 at e
  refine Go.run (pc' := 23) [.iconst 0] (ls' := [some (.ref a0), some (.int x1), some (.int x2), none]) (st' := [.int (0 : Int32)]) (by decide +kernel) rfl rfl ?_
  exact x_W_metreOfPlug_23 hf hI k0 e
def f_W_metreOfPlug (h : HP) (a0 : Nat) (x1 : Int32) (x2 : Int32) : Option (Int32) :=
  if x2 < 0 then
    f_W_metreOfPlug_22 h a0 x1 x2
  else
    if (3 : Int32) ≤ x2 then
      f_W_metreOfPlug_22 h a0 x1 x2
    else
      (f_W_plugsHad h a0 x1).bind fun v3 =>
      if v3 ≤ x2 then
        f_W_metreOfPlug_22 h a0 x1 x2
      else
        f_W_metreOfPlug_23 h a0 x1 x2 (1 : Int32)
set_option maxHeartbeats 1000000 in
theorem x_W_metreOfPlug {l : Launch} {D : va_G} {ad : Nat → Nat} {aC : Nat → ClassId} (hf : l.flags = flags0) (hI : Inj ad) {h : HP} {a0 : Nat} {x1 : Int32} {x2 : Int32} {r : Int32} (k0 : knd a0 = 4) (e : f_W_metreOfPlug h a0 x1 x2 = some r) : CT l D ad aC m_W_metreOfPlug [.ref a0, .int x1, .int x2] h (.inl (some (.int r))) h := by
  refine CT.ofGo (by decide +kernel) rfl (Nat.le_of_ble_eq_true rfl) ?_
  unfold f_W_metreOfPlug at e
  show Go l D ad aC (rmk m_W_metreOfPlug) _ m_W_metreOfPlug 0 [some (.ref a0), some (.int x1), some (.int x2), none] [] h 0 0
  refine Go.run (pc' := 1) [.iload_n 2] (ls' := [some (.ref a0), some (.int x1), some (.int x2), none]) (st' := [.int x2]) (by decide +kernel) rfl rfl ?_
  refine Go.if_lt (off := 21) (tgt := 22) (by decide +kernel) (by decide) (fun c1 => ?_) (fun c1 => ?_)
  · replace e := ite_t c1 e
    exact x_W_metreOfPlug_22 hf hI k0 e
  · replace e := ite_f c1 e
    refine Go.run (pc' := 6) [.iload_n 2, .iconst 3] (ls' := [some (.ref a0), some (.int x1), some (.int x2), none]) (st' := [.int (3 : Int32), .int x2]) (by decide +kernel) rfl rfl ?_
    refine Go.ic_ge (off := 16) (tgt := 22) (by decide +kernel) (by decide) (fun c2 => ?_) (fun c2 => ?_)
    · replace e := ite_t c2 e
      exact x_W_metreOfPlug_22 hf hI k0 e
    · replace e := ite_f c2 e
      refine Go.run (pc' := 12) [.iload_n 2, .aload_n 0, .iload_n 1] (ls' := [some (.ref a0), some (.int x1), some (.int x2), none]) (st' := [.int x1, .ref a0, .int x2]) (by decide +kernel) rfl rfl ?_
      obtain ⟨v3, e4, e⟩ := bd_inv e
      refine Go.callV (M2 := m_W_plugsHad) (a := a0) (as := [.int x1]) (rest := [.int x2]) (v := some (.int v3)) (h1 := h) (x_W_plugsHad hf hI k0 e4) wv_W_78 k0 kc_4 (by decide +kernel) rfl rfl ⟨⟨Nat.le_of_ble_eq_true rfl, Nat.le_of_ble_eq_true rfl⟩, ⟨Nat.le_of_ble_eq_true rfl, Nat.le_of_ble_eq_true rfl⟩⟩ (Nat.le_of_ble_eq_true rfl) ?_
      show Go l D ad aC (rmk m_W_metreOfPlug) _ m_W_metreOfPlug 15 [some (.ref a0), some (.int x1), some (.int x2), none] [.int v3, .int x2] h 0 0
      refine Go.ic_ge (off := 7) (tgt := 22) (by decide +kernel) (by decide) (fun c5 => ?_) (fun c5 => ?_)
      · replace e := ite_t c5 e
        exact x_W_metreOfPlug_22 hf hI k0 e
      · replace e := ite_f c5 e
        refine Go.run (pc' := 19) [.iconst 1] (ls' := [some (.ref a0), some (.int x1), some (.int x2), none]) (st' := [.int (1 : Int32)]) (by decide +kernel) rfl rfl ?_
        refine Go.goto (off := 4) (tgt := 23) (by decide +kernel) (by decide) ?_
        exact x_W_metreOfPlug_23 hf hI k0 e
