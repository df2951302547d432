/-! printed by wip/p31/law31.py -/
def f_Q_told_220  (a0 : Nat) (x1 : Int32) (x2 : Int32) (h : HP) : Option (Int32 × HP) :=
  if x2 = 0 then
    some ((0 : Int32), h)
  else
    (f_Q_says h a0 (115 : Int32) (48 : Int32) ((48 : Int32) + (x1 - x1 / (3 : Int32) * (3 : Int32))) (110 : Int32)).bind fun v2 =>
    if v2.1 = 0 then
      some ((0 : Int32), v2.2)
    else
      (f_Q_says v2.2 a0 (48 : Int32) ((49 : Int32) + (x1 - x1 / (9 : Int32) * (9 : Int32))) (101 : Int32) (51 : Int32)).bind fun v5 =>
      if v5.1 = 0 then
        some ((0 : Int32), v5.2)
      else
        (f_Q_says v5.2 a0 (48 : Int32) ((48 : Int32) + (x1 - x1 / (10 : Int32) * (10 : Int32))) (108 : Int32) ((48 : Int32) + (x1 - x1 / (5 : Int32) * (5 : Int32)))).bind fun v8 =>
        if v8.1 = 0 then
          some ((0 : Int32), v8.2)
        else
          (f_F_errorPosition v8.2 a0).bind fun v11 =>
          if v11.1 = (-1 : Int32) then
            some ((1 : Int32), v11.2)
          else
            some ((0 : Int32), v11.2)
set_option maxHeartbeats 4000000 in
theorem x_Q_told_220 {l : Launch} {D : va_G} {ad : Nat → Nat} {aC : Nat → ClassId} (hf : l.flags = flags0) (hI : Inj ad) {a0 : Nat} {x1 : Int32} {x2 : Int32} {h : HP} {r : Int32 × HP} (k0 : knd a0 = 7) (e : f_Q_told_220 a0 x1 x2 h = some r) : Go l D ad aC (rmk m_Q_told) (QM D ad aC m_Q_told (.inl (some (.int r.1))) r.2) m_Q_told 220 [some (.ref a0), some (.int x1), some (.int x2), none, none] [] h 0 0 := by
  unfold f_Q_told_220 at e
  refine Go.run (pc' := 221) [.iload_n 2] (ls' := [some (.ref a0), some (.int x1), some (.int x2), none, none]) (st' := [.int x2]) (by decide +kernel) rfl rfl ?_
  refine Go.if_eq (off := 78) (tgt := 299) (by decide +kernel) (by decide) (fun c1 => ?_) (fun c1 => ?_)
  · replace e := ite_t c1 e
    refine Go.run (pc' := 300) [.iconst 0] (ls' := [some (.ref a0), some (.int x1), some (.int x2), none, none]) (st' := [.int (0 : Int32)]) (by decide +kernel) rfl rfl ?_
    obtain rfl := Option.some.inj e
    exact Go.zret rfl nar_z0 (by decide) (by decide) (by decide +kernel)
  · replace e := ite_f c1 e
    refine Go.run (pc' := 237) [.aload_n 0, .bipush (115), .bipush (48), .bipush (48), .iload_n 1, .iconst 3, .irem, .iadd, .bipush (110)] (ls' := [some (.ref a0), some (.int x1), some (.int x2), none, none]) (st' := [.int (110 : Int32), .int ((48 : Int32) + (x1 - x1 / (3 : Int32) * (3 : Int32))), .int (48 : Int32), .int (115 : Int32), .ref a0]) (by decide +kernel) rfl rfl ?_
    obtain ⟨v2, e3, e⟩ := bd_inv e
    refine Go.callS (M2 := m_Q_says) (as := [.ref a0, .int (115 : Int32), .int (48 : Int32), .int ((48 : Int32) + (x1 - x1 / (3 : Int32) * (3 : Int32))), .int (110 : Int32)]) (rest := []) (v := some (.int v2.1)) (h1 := v2.2) (x_Q_says hf hI k0 e3) ws_Q_195 (by decide +kernel) rfl rfl ⟨⟨Nat.le_of_ble_eq_true rfl, Nat.le_of_ble_eq_true rfl⟩, ⟨Nat.le_of_ble_eq_true rfl, Nat.le_of_ble_eq_true rfl⟩⟩ (Nat.le_of_ble_eq_true rfl) ?_
    show Go l D ad aC (rmk m_Q_told) _ m_Q_told 240 [some (.ref a0), some (.int x1), some (.int x2), none, none] [.int v2.1] v2.2 0 0
    refine Go.if_eq (off := 59) (tgt := 299) (by decide +kernel) (by decide) (fun c4 => ?_) (fun c4 => ?_)
    · replace e := ite_t c4 e
      refine Go.run (pc' := 300) [.iconst 0] (ls' := [some (.ref a0), some (.int x1), some (.int x2), none, none]) (st' := [.int (0 : Int32)]) (by decide +kernel) rfl rfl ?_
      obtain rfl := Option.some.inj e
      exact Go.zret rfl nar_z0 (by decide) (by decide) (by decide +kernel)
    · replace e := ite_f c4 e
      refine Go.run (pc' := 257) [.aload_n 0, .bipush (48), .bipush (49), .iload_n 1, .bipush (9), .irem, .iadd, .bipush (101), .bipush (51)] (ls' := [some (.ref a0), some (.int x1), some (.int x2), none, none]) (st' := [.int (51 : Int32), .int (101 : Int32), .int ((49 : Int32) + (x1 - x1 / (9 : Int32) * (9 : Int32))), .int (48 : Int32), .ref a0]) (by decide +kernel) rfl rfl ?_
      obtain ⟨v5, e6, e⟩ := bd_inv e
      refine Go.callS (M2 := m_Q_says) (as := [.ref a0, .int (48 : Int32), .int ((49 : Int32) + (x1 - x1 / (9 : Int32) * (9 : Int32))), .int (101 : Int32), .int (51 : Int32)]) (rest := []) (v := some (.int v5.1)) (h1 := v5.2) (x_Q_says hf hI k0 e6) ws_Q_195 (by decide +kernel) rfl rfl ⟨⟨Nat.le_of_ble_eq_true rfl, Nat.le_of_ble_eq_true rfl⟩, ⟨Nat.le_of_ble_eq_true rfl, Nat.le_of_ble_eq_true rfl⟩⟩ (Nat.le_of_ble_eq_true rfl) ?_
      show Go l D ad aC (rmk m_Q_told) _ m_Q_told 260 [some (.ref a0), some (.int x1), some (.int x2), none, none] [.int v5.1] v5.2 0 0
      refine Go.if_eq (off := 39) (tgt := 299) (by decide +kernel) (by decide) (fun c7 => ?_) (fun c7 => ?_)
      · replace e := ite_t c7 e
        refine Go.run (pc' := 300) [.iconst 0] (ls' := [some (.ref a0), some (.int x1), some (.int x2), none, none]) (st' := [.int (0 : Int32)]) (by decide +kernel) rfl rfl ?_
        obtain rfl := Option.some.inj e
        exact Go.zret rfl nar_z0 (by decide) (by decide) (by decide +kernel)
      · replace e := ite_f c7 e
        refine Go.run (pc' := 281) [.aload_n 0, .bipush (48), .bipush (48), .iload_n 1, .bipush (10), .irem, .iadd, .bipush (108), .bipush (48), .iload_n 1, .iconst 5, .irem, .iadd] (ls' := [some (.ref a0), some (.int x1), some (.int x2), none, none]) (st' := [.int ((48 : Int32) + (x1 - x1 / (5 : Int32) * (5 : Int32))), .int (108 : Int32), .int ((48 : Int32) + (x1 - x1 / (10 : Int32) * (10 : Int32))), .int (48 : Int32), .ref a0]) (by decide +kernel) rfl rfl ?_
        obtain ⟨v8, e9, e⟩ := bd_inv e
        refine Go.callS (M2 := m_Q_says) (as := [.ref a0, .int (48 : Int32), .int ((48 : Int32) + (x1 - x1 / (10 : Int32) * (10 : Int32))), .int (108 : Int32), .int ((48 : Int32) + (x1 - x1 / (5 : Int32) * (5 : Int32)))]) (rest := []) (v := some (.int v8.1)) (h1 := v8.2) (x_Q_says hf hI k0 e9) ws_Q_195 (by decide +kernel) rfl rfl ⟨⟨Nat.le_of_ble_eq_true rfl, Nat.le_of_ble_eq_true rfl⟩, ⟨Nat.le_of_ble_eq_true rfl, Nat.le_of_ble_eq_true rfl⟩⟩ (Nat.le_of_ble_eq_true rfl) ?_
        show Go l D ad aC (rmk m_Q_told) _ m_Q_told 284 [some (.ref a0), some (.int x1), some (.int x2), none, none] [.int v8.1] v8.2 0 0
        refine Go.if_eq (off := 15) (tgt := 299) (by decide +kernel) (by decide) (fun c10 => ?_) (fun c10 => ?_)
        · replace e := ite_t c10 e
          refine Go.run (pc' := 300) [.iconst 0] (ls' := [some (.ref a0), some (.int x1), some (.int x2), none, none]) (st' := [.int (0 : Int32)]) (by decide +kernel) rfl rfl ?_
          obtain rfl := Option.some.inj e
          exact Go.zret rfl nar_z0 (by decide) (by decide) (by decide +kernel)
        · replace e := ite_f c10 e
          refine Go.run (pc' := 288) [.aload_n 0] (ls' := [some (.ref a0), some (.int x1), some (.int x2), none, none]) (st' := [.ref a0]) (by decide +kernel) rfl rfl ?_
          obtain ⟨v11, e12, e⟩ := bd_inv e
          refine Go.callV (M2 := m_F_errorPosition) (a := a0) (as := []) (rest := []) (v := some (.int v11.1)) (h1 := v11.2) (x_F_errorPosition hf hI k0 e12) wv_Q_187 k0 kc_7 (by decide +kernel) rfl rfl ⟨⟨Nat.le_of_ble_eq_true rfl, Nat.le_of_ble_eq_true rfl⟩, ⟨Nat.le_of_ble_eq_true rfl, Nat.le_of_ble_eq_true rfl⟩⟩ (Nat.le_of_ble_eq_true rfl) ?_
          show Go l D ad aC (rmk m_Q_told) _ m_Q_told 291 [some (.ref a0), some (.int x1), some (.int x2), none, none] [.int v11.1] v11.2 0 0
          refine Go.run (pc' := 292) [.iconst (-1)] (ls' := [some (.ref a0), some (.int x1), some (.int x2), none, none]) (st' := [.int (-1 : Int32), .int v11.1]) (by decide +kernel) rfl rfl ?_
          refine Go.ic_ne (off := 7) (tgt := 299) (by decide +kernel) (by decide) (fun c13 => ?_) (fun c13 => ?_)
          · replace e := ite_f c13 e
            refine Go.run (pc' := 300) [.iconst 0] (ls' := [some (.ref a0), some (.int x1), some (.int x2), none, none]) (st' := [.int (0 : Int32)]) (by decide +kernel) rfl rfl ?_
            obtain rfl := Option.some.inj e
            exact Go.zret rfl nar_z0 (by decide) (by decide) (by decide +kernel)
          · replace e := ite_t c13 e
            refine Go.run (pc' := 296) [.iconst 1] (ls' := [some (.ref a0), some (.int x1), some (.int x2), none, none]) (st' := [.int (1 : Int32)]) (by decide +kernel) rfl rfl ?_
            refine Go.goto (off := 4) (tgt := 300) (by decide +kernel) (by decide) ?_
            obtain rfl := Option.some.inj e
            exact Go.zret rfl nar_z1 (by decide) (by decide) (by decide +kernel)
def f_Q_told_213 (k111_ : Nat → Int32 → Int32 → Int32 → HP → Option (Int32 × HP)) (a0 : Nat) (x1 : Int32) (x3 : Int32) (s0 : Int32) (h : HP) : Option (Int32 × HP) :=
  k111_ a0 x1 s0 (x3 + (1 : Int32)) h
set_option maxHeartbeats 4000000 in
theorem x_Q_told_213 {l : Launch} {D : va_G} {ad : Nat → Nat} {aC : Nat → ClassId} (hf : l.flags = flags0) (hI : Inj ad) {k111_ : Nat → Int32 → Int32 → Int32 → HP → Option (Int32 × HP)} (K111_ : ∀ {a0 : Nat} {x1 : Int32} {x2 : Int32} {x3 : Int32} {h : HP} {r : Int32 × HP}, knd a0 = 7 → k111_ a0 x1 x2 x3 h = some r → Go l D ad aC (rmk m_Q_told) (QM D ad aC m_Q_told (.inl (some (.int r.1))) r.2) m_Q_told 111 [some (.ref a0), some (.int x1), some (.int x2), some (.int x3), none] [] h 0 0) {a0 : Nat} {x1 : Int32} {x3 : Int32} {s0 : Int32} {h : HP} {r : Int32 × HP} (k0 : knd a0 = 7) (e : f_Q_told_213 k111_ a0 x1 x3 s0 h = some r) : Go l D ad aC (rmk m_Q_told) (QM D ad aC m_Q_told (.inl (some (.int r.1))) r.2) m_Q_told 213 [some (.ref a0), some (.int x1), none, some (.int x3), none] [.int s0] h 0 0 := by
  unfold f_Q_told_213 at e
  refine Go.run (pc' := 217) [.istore_n 2, .iinc 3 (1)] (ls' := [some (.ref a0), some (.int x1), some (.int s0), some (.int (x3 + (1 : Int32))), none]) (st' := []) (by decide +kernel) rfl rfl ?_
  refine Go.goto (off := -106) (tgt := 111) (by decide +kernel) (by decide) ?_
  exact K111_ k0 e
def f_Q_told_212 (k111_ : Nat → Int32 → Int32 → Int32 → HP → Option (Int32 × HP)) (a0 : Nat) (x1 : Int32) (x3 : Int32) (h : HP) : Option (Int32 × HP) :=
  f_Q_told_213 k111_ a0 x1 x3 (0 : Int32) h
set_option maxHeartbeats 4000000 in
theorem x_Q_told_212 {l : Launch} {D : va_G} {ad : Nat → Nat} {aC : Nat → ClassId} (hf : l.flags = flags0) (hI : Inj ad) {k111_ : Nat → Int32 → Int32 → Int32 → HP → Option (Int32 × HP)} (K111_ : ∀ {a0 : Nat} {x1 : Int32} {x2 : Int32} {x3 : Int32} {h : HP} {r : Int32 × HP}, knd a0 = 7 → k111_ a0 x1 x2 x3 h = some r → Go l D ad aC (rmk m_Q_told) (QM D ad aC m_Q_told (.inl (some (.int r.1))) r.2) m_Q_told 111 [some (.ref a0), some (.int x1), some (.int x2), some (.int x3), none] [] h 0 0) {a0 : Nat} {x1 : Int32} {x3 : Int32} {h : HP} {r : Int32 × HP} (k0 : knd a0 = 7) (e : f_Q_told_212 k111_ a0 x1 x3 h = some r) : Go l D ad aC (rmk m_Q_told) (QM D ad aC m_Q_told (.inl (some (.int r.1))) r.2) m_Q_told 212 [some (.ref a0), some (.int x1), none, some (.int x3), none] [] h 0 0 := by
  unfold f_Q_told_212 at e
  refine Go.run (pc' := 213) [.iconst 0] (ls' := [some (.ref a0), some (.int x1), none, some (.int x3), none]) (st' := [.int (0 : Int32)]) (by decide +kernel) rfl rfl ?_
  exact x_Q_told_213 hf hI K111_ k0 e
def f_Q_told_111  : Nat → Nat → Int32 → Int32 → Int32 → HP → Option (Int32 × HP)
  | 0, _, _, _, _, _ => none
  | n + 1, a0, x1, x2, x3, h =>
    if ((1 : Int32) + (x1 - x1 / (4 : Int32) * (4 : Int32))) ≤ x3 then
      f_Q_told_220 a0 x1 x2 h
    else
      if x2 = 0 then
        f_Q_told_220 a0 x1 x2 h
      else
        (f_Q_says h a0 (100 : Int32) ((48 : Int32) + ((x1 >>> (x3 &&& 31)) - (x1 >>> (x3 &&& 31)) / (6 : Int32) * (6 : Int32))) ((49 : Int32) + ((x1 >>> (x3 &&& 31)) - (x1 >>> (x3 &&& 31)) / (4 : Int32) * (4 : Int32))) ((48 : Int32) + (((x1 >>> (x3 &&& 31)) / (3 : Int32)) - ((x1 >>> (x3 &&& 31)) / (3 : Int32)) / (4 : Int32) * (4 : Int32)))).bind fun v3 =>
        if v3.1 = 0 then
          f_Q_told_212 (f_Q_told_111 n) a0 x1 x3 v3.2
        else
          (f_Q_says v3.2 a0 (112 : Int32) ((48 : Int32) + x3) ((48 : Int32) + ((x1 >>> (x3 &&& 31)) - (x1 >>> (x3 &&& 31)) / (2 : Int32) * (2 : Int32))) ((48 : Int32) + (((x1 >>> (x3 &&& 31)) / (5 : Int32)) - ((x1 >>> (x3 &&& 31)) / (5 : Int32)) / (2 : Int32) * (2 : Int32)))).bind fun v6 =>
          if v6.1 = 0 then
            f_Q_told_212 (f_Q_told_111 n) a0 x1 x3 v6.2
          else
            (g_Q_append v6.2 a0 ((48 : Int32) + ((x1 >>> (x3 &&& 31)) - (x1 >>> (x3 &&& 31)) / (10 : Int32) * (10 : Int32)))).bind fun v9 =>
            if (lg_cmp v9.1 (0 : Int64)) ≤ 0 then
              f_Q_told_212 (f_Q_told_111 n) a0 x1 x3 v9.2
            else
              f_Q_told_213 (f_Q_told_111 n) a0 x1 x3 (1 : Int32) v9.2
set_option maxHeartbeats 4000000 in
theorem x_Q_told_111 {l : Launch} {D : va_G} {ad : Nat → Nat} {aC : Nat → ClassId} (hf : l.flags = flags0) (hI : Inj ad) : ∀ (n : Nat) {a0 : Nat} {x1 : Int32} {x2 : Int32} {x3 : Int32} {h : HP} {r : Int32 × HP}, knd a0 = 7 → f_Q_told_111 n a0 x1 x2 x3 h = some r → Go l D ad aC (rmk m_Q_told) (QM D ad aC m_Q_told (.inl (some (.int r.1))) r.2) m_Q_told 111 [some (.ref a0), some (.int x1), some (.int x2), some (.int x3), none] [] h 0 0 := by
  intro n
  induction n with
  | zero => intro a0 x1 x2 x3 h r k0 e; exact no_none e
  | succ n ih =>
    intro a0 x1 x2 x3 h r k0 e
    rw [f_Q_told_111] at e
    refine Go.run (pc' := 117) [.iload_n 3, .iconst 1, .iload_n 1, .iconst 4, .irem, .iadd] (ls' := [some (.ref a0), some (.int x1), some (.int x2), some (.int x3), none]) (st' := [.int ((1 : Int32) + (x1 - x1 / (4 : Int32) * (4 : Int32))), .int x3]) (by decide +kernel) rfl rfl ?_
    refine Go.ic_ge (off := 103) (tgt := 220) (by decide +kernel) (by decide) (fun c1 => ?_) (fun c1 => ?_)
    · replace e := ite_t c1 e
      refine Go.wk' (wks (wks (wks (wkn (wks wk0))))) ?_
      exact x_Q_told_220 hf hI k0 e
    · replace e := ite_f c1 e
      refine Go.run (pc' := 121) [.iload_n 2] (ls' := [some (.ref a0), some (.int x1), some (.int x2), some (.int x3), none]) (st' := [.int x2]) (by decide +kernel) rfl rfl ?_
      refine Go.if_eq (off := 99) (tgt := 220) (by decide +kernel) (by decide) (fun c2 => ?_) (fun c2 => ?_)
      · replace e := ite_t c2 e
        refine Go.wk' (wks (wks (wks (wkn (wks wk0))))) ?_
        exact x_Q_told_220 hf hI k0 e
      · replace e := ite_f c2 e
        refine Go.run (pc' := 156) [.iload_n 1, .iload_n 3, .ishr, .istore 4, .aload_n 0, .bipush (100), .bipush (48), .iload 4, .bipush (6), .irem, .iadd, .bipush (49), .iload 4, .iconst 4, .irem, .iadd, .bipush (48), .iload 4, .iconst 3, .idiv, .iconst 4, .irem, .iadd] (ls' := [some (.ref a0), some (.int x1), some (.int x2), some (.int x3), some (.int (x1 >>> (x3 &&& 31)))]) (st' := [.int ((48 : Int32) + (((x1 >>> (x3 &&& 31)) / (3 : Int32)) - ((x1 >>> (x3 &&& 31)) / (3 : Int32)) / (4 : Int32) * (4 : Int32))), .int ((49 : Int32) + ((x1 >>> (x3 &&& 31)) - (x1 >>> (x3 &&& 31)) / (4 : Int32) * (4 : Int32))), .int ((48 : Int32) + ((x1 >>> (x3 &&& 31)) - (x1 >>> (x3 &&& 31)) / (6 : Int32) * (6 : Int32))), .int (100 : Int32), .ref a0]) (by decide +kernel) rfl rfl ?_
        obtain ⟨v3, e4, e⟩ := bd_inv e
        refine Go.callS (M2 := m_Q_says) (as := [.ref a0, .int (100 : Int32), .int ((48 : Int32) + ((x1 >>> (x3 &&& 31)) - (x1 >>> (x3 &&& 31)) / (6 : Int32) * (6 : Int32))), .int ((49 : Int32) + ((x1 >>> (x3 &&& 31)) - (x1 >>> (x3 &&& 31)) / (4 : Int32) * (4 : Int32))), .int ((48 : Int32) + (((x1 >>> (x3 &&& 31)) / (3 : Int32)) - ((x1 >>> (x3 &&& 31)) / (3 : Int32)) / (4 : Int32) * (4 : Int32)))]) (rest := []) (v := some (.int v3.1)) (h1 := v3.2) (x_Q_says hf hI k0 e4) ws_Q_195 (by decide +kernel) rfl rfl ⟨⟨Nat.le_of_ble_eq_true rfl, Nat.le_of_ble_eq_true rfl⟩, ⟨Nat.le_of_ble_eq_true rfl, Nat.le_of_ble_eq_true rfl⟩⟩ (Nat.le_of_ble_eq_true rfl) ?_
        show Go l D ad aC (rmk m_Q_told) _ m_Q_told 159 [some (.ref a0), some (.int x1), some (.int x2), some (.int x3), some (.int (x1 >>> (x3 &&& 31)))] [.int v3.1] v3.2 0 0
        refine Go.if_eq (off := 53) (tgt := 212) (by decide +kernel) (by decide) (fun c5 => ?_) (fun c5 => ?_)
        · replace e := ite_t c5 e
          refine Go.wk' (wks (wks (wkn (wks (wkn wk0))))) ?_
          exact x_Q_told_212 hf hI (fun kk0 e => ih kk0 e) k0 e
        · replace e := ite_f c5 e
          refine Go.run (pc' := 185) [.aload_n 0, .bipush (112), .bipush (48), .iload_n 3, .iadd, .bipush (48), .iload 4, .iconst 2, .irem, .iadd, .bipush (48), .iload 4, .iconst 5, .idiv, .iconst 2, .irem, .iadd] (ls' := [some (.ref a0), some (.int x1), some (.int x2), some (.int x3), some (.int (x1 >>> (x3 &&& 31)))]) (st' := [.int ((48 : Int32) + (((x1 >>> (x3 &&& 31)) / (5 : Int32)) - ((x1 >>> (x3 &&& 31)) / (5 : Int32)) / (2 : Int32) * (2 : Int32))), .int ((48 : Int32) + ((x1 >>> (x3 &&& 31)) - (x1 >>> (x3 &&& 31)) / (2 : Int32) * (2 : Int32))), .int ((48 : Int32) + x3), .int (112 : Int32), .ref a0]) (by decide +kernel) rfl rfl ?_
          obtain ⟨v6, e7, e⟩ := bd_inv e
          refine Go.callS (M2 := m_Q_says) (as := [.ref a0, .int (112 : Int32), .int ((48 : Int32) + x3), .int ((48 : Int32) + ((x1 >>> (x3 &&& 31)) - (x1 >>> (x3 &&& 31)) / (2 : Int32) * (2 : Int32))), .int ((48 : Int32) + (((x1 >>> (x3 &&& 31)) / (5 : Int32)) - ((x1 >>> (x3 &&& 31)) / (5 : Int32)) / (2 : Int32) * (2 : Int32)))]) (rest := []) (v := some (.int v6.1)) (h1 := v6.2) (x_Q_says hf hI k0 e7) ws_Q_195 (by decide +kernel) rfl rfl ⟨⟨Nat.le_of_ble_eq_true rfl, Nat.le_of_ble_eq_true rfl⟩, ⟨Nat.le_of_ble_eq_true rfl, Nat.le_of_ble_eq_true rfl⟩⟩ (Nat.le_of_ble_eq_true rfl) ?_
          show Go l D ad aC (rmk m_Q_told) _ m_Q_told 188 [some (.ref a0), some (.int x1), some (.int x2), some (.int x3), some (.int (x1 >>> (x3 &&& 31)))] [.int v6.1] v6.2 0 0
          refine Go.if_eq (off := 24) (tgt := 212) (by decide +kernel) (by decide) (fun c8 => ?_) (fun c8 => ?_)
          · replace e := ite_t c8 e
            refine Go.wk' (wks (wks (wkn (wks (wkn wk0))))) ?_
            exact x_Q_told_212 hf hI (fun kk0 e => ih kk0 e) k0 e
          · replace e := ite_f c8 e
            refine Go.run (pc' := 200) [.aload_n 0, .bipush (48), .iload 4, .bipush (10), .irem, .iadd] (ls' := [some (.ref a0), some (.int x1), some (.int x2), some (.int x3), some (.int (x1 >>> (x3 &&& 31)))]) (st' := [.int ((48 : Int32) + ((x1 >>> (x3 &&& 31)) - (x1 >>> (x3 &&& 31)) / (10 : Int32) * (10 : Int32))), .ref a0]) (by decide +kernel) rfl rfl ?_
            obtain ⟨v9, e10, e⟩ := bd_inv e
            refine Go.callH (M2 := (mr m_Q_append (.inl none))) (as := [.ref a0, .int ((48 : Int32) + ((x1 >>> (x3 &&& 31)) - (x1 >>> (x3 &&& 31)) / (10 : Int32) * (10 : Int32)))]) (rest := []) (v := some (.long v9.1)) (h1 := v9.2) (xn_Q_append hf hI k0 e10) (WH.mr wh_Q_175) (by decide +kernel) rfl rfl ⟨⟨Nat.le_of_ble_eq_true rfl, Nat.le_of_ble_eq_true rfl⟩, ⟨Nat.le_of_ble_eq_true rfl, Nat.le_of_ble_eq_true rfl⟩⟩ (Nat.le_of_ble_eq_true rfl) ?_
            show Go l D ad aC (rmk m_Q_told) _ m_Q_told 203 [some (.ref a0), some (.int x1), some (.int x2), some (.int x3), some (.int (x1 >>> (x3 &&& 31)))] [.long v9.1] v9.2 0 0
            refine Go.run (pc' := 205) [.lconst 0, .lcmp] (ls' := [some (.ref a0), some (.int x1), some (.int x2), some (.int x3), some (.int (x1 >>> (x3 &&& 31)))]) (st' := [.int (lg_cmp v9.1 (0 : Int64))]) (by decide +kernel) rfl rfl ?_
            refine Go.if_le (off := 7) (tgt := 212) (by decide +kernel) (by decide) (fun c11 => ?_) (fun c11 => ?_)
            · replace e := ite_t c11 e
              refine Go.wk' (wks (wks (wkn (wks (wkn wk0))))) ?_
              exact x_Q_told_212 hf hI (fun kk0 e => ih kk0 e) k0 e
            · replace e := ite_f c11 e
              refine Go.run (pc' := 209) [.iconst 1] (ls' := [some (.ref a0), some (.int x1), some (.int x2), some (.int x3), some (.int (x1 >>> (x3 &&& 31)))]) (st' := [.int (1 : Int32)]) (by decide +kernel) rfl rfl ?_
              refine Go.goto (off := 4) (tgt := 213) (by decide +kernel) (by decide) ?_
              refine Go.wk' (wks (wks (wkn (wks (wkn wk0))))) ?_
              exact x_Q_told_213 hf hI (fun kk0 e => ih kk0 e) k0 e
def f_Q_told_108  (a0 : Nat) (x1 : Int32) (s0 : Int32) (h : HP) : Option (Int32 × HP) :=
  f_Q_told_111 4096 a0 x1 s0 (0 : Int32) h
set_option maxHeartbeats 4000000 in
theorem x_Q_told_108 {l : Launch} {D : va_G} {ad : Nat → Nat} {aC : Nat → ClassId} (hf : l.flags = flags0) (hI : Inj ad) {a0 : Nat} {x1 : Int32} {s0 : Int32} {h : HP} {r : Int32 × HP} (k0 : knd a0 = 7) (e : f_Q_told_108 a0 x1 s0 h = some r) : Go l D ad aC (rmk m_Q_told) (QM D ad aC m_Q_told (.inl (some (.int r.1))) r.2) m_Q_told 108 [some (.ref a0), some (.int x1), none, none, none] [.int s0] h 0 0 := by
  unfold f_Q_told_108 at e
  refine Go.run (pc' := 111) [.istore_n 2, .iconst 0, .istore_n 3] (ls' := [some (.ref a0), some (.int x1), some (.int s0), some (.int (0 : Int32)), none]) (st' := []) (by decide +kernel) rfl rfl ?_
  exact x_Q_told_111 hf hI 4096 k0 e
def f_Q_told_107  (a0 : Nat) (x1 : Int32) (h : HP) : Option (Int32 × HP) :=
  f_Q_told_108 a0 x1 (0 : Int32) h
set_option maxHeartbeats 4000000 in
theorem x_Q_told_107 {l : Launch} {D : va_G} {ad : Nat → Nat} {aC : Nat → ClassId} (hf : l.flags = flags0) (hI : Inj ad) {a0 : Nat} {x1 : Int32} {h : HP} {r : Int32 × HP} (k0 : knd a0 = 7) (e : f_Q_told_107 a0 x1 h = some r) : Go l D ad aC (rmk m_Q_told) (QM D ad aC m_Q_told (.inl (some (.int r.1))) r.2) m_Q_told 107 [some (.ref a0), some (.int x1), none, none, none] [] h 0 0 := by
  unfold f_Q_told_107 at e
  refine Go.run (pc' := 108) [.iconst 0] (ls' := [some (.ref a0), some (.int x1), none, none, none]) (st' := [.int (0 : Int32)]) (by decide +kernel) rfl rfl ?_
  exact x_Q_told_108 hf hI k0 e
def f_Q_told (h : HP) (a0 : Nat) (x1 : Int32) : Option (Int32 × HP) :=
  (f_F_clearText h a0).bind fun v1 =>
  if v1.1 < 0 then
    f_Q_told_107 a0 x1 v1.2
  else
    (g_Q_append v1.2 a0 (65 : Int32)).bind fun v4 =>
    if (lg_cmp v4.1 (0 : Int64)) ≤ 0 then
      f_Q_told_107 a0 x1 v4.2
    else
      (f_Q_says v4.2 a0 (119 : Int32) (49 : Int32) ((48 : Int32) + (x1 - x1 / (10 : Int32) * (10 : Int32))) (119 : Int32)).bind fun v7 =>
      if v7.1 = 0 then
        f_Q_told_107 a0 x1 v7.2
      else
        (f_Q_says v7.2 a0 (50 : Int32) ((48 : Int32) + ((x1 / (3 : Int32)) - (x1 / (3 : Int32)) / (10 : Int32) * (10 : Int32))) (111 : Int32) (48 : Int32)).bind fun v10 =>
        if v10.1 = 0 then
          f_Q_told_107 a0 x1 v10.2
        else
          (f_Q_says v10.2 a0 (48 : Int32) ((48 : Int32) + (x1 - x1 / (10 : Int32) * (10 : Int32))) (51 : Int32) (111 : Int32)).bind fun v13 =>
          if v13.1 = 0 then
            f_Q_told_107 a0 x1 v13.2
          else
            (f_Q_says v13.2 a0 (49 : Int32) (48 : Int32) ((48 : Int32) + ((x1 / (7 : Int32)) - (x1 / (7 : Int32)) / (10 : Int32) * (10 : Int32))) (50 : Int32)).bind fun v16 =>
            if v16.1 = 0 then
              f_Q_told_107 a0 x1 v16.2
            else
              f_Q_told_108 a0 x1 (1 : Int32) v16.2
set_option maxHeartbeats 4000000 in
theorem x_Q_told {l : Launch} {D : va_G} {ad : Nat → Nat} {aC : Nat → ClassId} (hf : l.flags = flags0) (hI : Inj ad) {h : HP} {a0 : Nat} {x1 : Int32} {r : Int32 × HP} (k0 : knd a0 = 7) (e : f_Q_told h a0 x1 = some r) : CT l D ad aC m_Q_told [.ref a0, .int x1] h (.inl (some (.int r.1))) r.2 := by
  refine CT.ofGo (by decide +kernel) rfl (Nat.le_of_ble_eq_true rfl) ?_
  unfold f_Q_told at e
  show Go l D ad aC (rmk m_Q_told) _ m_Q_told 0 [some (.ref a0), some (.int x1), none, none, none] [] h 0 0
  refine Go.run (pc' := 1) [.aload_n 0] (ls' := [some (.ref a0), some (.int x1), none, none, none]) (st' := [.ref a0]) (by decide +kernel) rfl rfl ?_
  obtain ⟨v1, e2, e⟩ := bd_inv e
  refine Go.callV (M2 := m_F_clearText) (a := a0) (as := []) (rest := []) (v := some (.int v1.1)) (h1 := v1.2) (x_F_clearText hf hI k0 e2) wv_Q_192 k0 kc_7 (by decide +kernel) rfl rfl ⟨⟨Nat.le_of_ble_eq_true rfl, Nat.le_of_ble_eq_true rfl⟩, ⟨Nat.le_of_ble_eq_true rfl, Nat.le_of_ble_eq_true rfl⟩⟩ (Nat.le_of_ble_eq_true rfl) ?_
  show Go l D ad aC (rmk m_Q_told) _ m_Q_told 4 [some (.ref a0), some (.int x1), none, none, none] [.int v1.1] v1.2 0 0
  refine Go.if_lt (off := 103) (tgt := 107) (by decide +kernel) (by decide) (fun c3 => ?_) (fun c3 => ?_)
  · replace e := ite_t c3 e
    exact x_Q_told_107 hf hI k0 e
  · replace e := ite_f c3 e
    refine Go.run (pc' := 10) [.aload_n 0, .bipush (65)] (ls' := [some (.ref a0), some (.int x1), none, none, none]) (st' := [.int (65 : Int32), .ref a0]) (by decide +kernel) rfl rfl ?_
    obtain ⟨v4, e5, e⟩ := bd_inv e
    refine Go.callH (M2 := (mr m_Q_append (.inl none))) (as := [.ref a0, .int (65 : Int32)]) (rest := []) (v := some (.long v4.1)) (h1 := v4.2) (xn_Q_append hf hI k0 e5) (WH.mr wh_Q_175) (by decide +kernel) rfl rfl ⟨⟨Nat.le_of_ble_eq_true rfl, Nat.le_of_ble_eq_true rfl⟩, ⟨Nat.le_of_ble_eq_true rfl, Nat.le_of_ble_eq_true rfl⟩⟩ (Nat.le_of_ble_eq_true rfl) ?_
    show Go l D ad aC (rmk m_Q_told) _ m_Q_told 13 [some (.ref a0), some (.int x1), none, none, none] [.long v4.1] v4.2 0 0
    refine Go.run (pc' := 15) [.lconst 0, .lcmp] (ls' := [some (.ref a0), some (.int x1), none, none, none]) (st' := [.int (lg_cmp v4.1 (0 : Int64))]) (by decide +kernel) rfl rfl ?_
    refine Go.if_le (off := 92) (tgt := 107) (by decide +kernel) (by decide) (fun c6 => ?_) (fun c6 => ?_)
    · replace e := ite_t c6 e
      exact x_Q_told_107 hf hI k0 e
    · replace e := ite_f c6 e
      refine Go.run (pc' := 32) [.aload_n 0, .bipush (119), .bipush (49), .bipush (48), .iload_n 1, .bipush (10), .irem, .iadd, .bipush (119)] (ls' := [some (.ref a0), some (.int x1), none, none, none]) (st' := [.int (119 : Int32), .int ((48 : Int32) + (x1 - x1 / (10 : Int32) * (10 : Int32))), .int (49 : Int32), .int (119 : Int32), .ref a0]) (by decide +kernel) rfl rfl ?_
      obtain ⟨v7, e8, e⟩ := bd_inv e
      refine Go.callS (M2 := m_Q_says) (as := [.ref a0, .int (119 : Int32), .int (49 : Int32), .int ((48 : Int32) + (x1 - x1 / (10 : Int32) * (10 : Int32))), .int (119 : Int32)]) (rest := []) (v := some (.int v7.1)) (h1 := v7.2) (x_Q_says hf hI k0 e8) ws_Q_195 (by decide +kernel) rfl rfl ⟨⟨Nat.le_of_ble_eq_true rfl, Nat.le_of_ble_eq_true rfl⟩, ⟨Nat.le_of_ble_eq_true rfl, Nat.le_of_ble_eq_true rfl⟩⟩ (Nat.le_of_ble_eq_true rfl) ?_
      show Go l D ad aC (rmk m_Q_told) _ m_Q_told 35 [some (.ref a0), some (.int x1), none, none, none] [.int v7.1] v7.2 0 0
      refine Go.if_eq (off := 72) (tgt := 107) (by decide +kernel) (by decide) (fun c9 => ?_) (fun c9 => ?_)
      · replace e := ite_t c9 e
        exact x_Q_told_107 hf hI k0 e
      · replace e := ite_f c9 e
        refine Go.run (pc' := 54) [.aload_n 0, .bipush (50), .bipush (48), .iload_n 1, .iconst 3, .idiv, .bipush (10), .irem, .iadd, .bipush (111), .bipush (48)] (ls' := [some (.ref a0), some (.int x1), none, none, none]) (st' := [.int (48 : Int32), .int (111 : Int32), .int ((48 : Int32) + ((x1 / (3 : Int32)) - (x1 / (3 : Int32)) / (10 : Int32) * (10 : Int32))), .int (50 : Int32), .ref a0]) (by decide +kernel) rfl rfl ?_
        obtain ⟨v10, e11, e⟩ := bd_inv e
        refine Go.callS (M2 := m_Q_says) (as := [.ref a0, .int (50 : Int32), .int ((48 : Int32) + ((x1 / (3 : Int32)) - (x1 / (3 : Int32)) / (10 : Int32) * (10 : Int32))), .int (111 : Int32), .int (48 : Int32)]) (rest := []) (v := some (.int v10.1)) (h1 := v10.2) (x_Q_says hf hI k0 e11) ws_Q_195 (by decide +kernel) rfl rfl ⟨⟨Nat.le_of_ble_eq_true rfl, Nat.le_of_ble_eq_true rfl⟩, ⟨Nat.le_of_ble_eq_true rfl, Nat.le_of_ble_eq_true rfl⟩⟩ (Nat.le_of_ble_eq_true rfl) ?_
        show Go l D ad aC (rmk m_Q_told) _ m_Q_told 57 [some (.ref a0), some (.int x1), none, none, none] [.int v10.1] v10.2 0 0
        refine Go.if_eq (off := 50) (tgt := 107) (by decide +kernel) (by decide) (fun c12 => ?_) (fun c12 => ?_)
        · replace e := ite_t c12 e
          exact x_Q_told_107 hf hI k0 e
        · replace e := ite_f c12 e
          refine Go.run (pc' := 74) [.aload_n 0, .bipush (48), .bipush (48), .iload_n 1, .bipush (10), .irem, .iadd, .bipush (51), .bipush (111)] (ls' := [some (.ref a0), some (.int x1), none, none, none]) (st' := [.int (111 : Int32), .int (51 : Int32), .int ((48 : Int32) + (x1 - x1 / (10 : Int32) * (10 : Int32))), .int (48 : Int32), .ref a0]) (by decide +kernel) rfl rfl ?_
          obtain ⟨v13, e14, e⟩ := bd_inv e
          refine Go.callS (M2 := m_Q_says) (as := [.ref a0, .int (48 : Int32), .int ((48 : Int32) + (x1 - x1 / (10 : Int32) * (10 : Int32))), .int (51 : Int32), .int (111 : Int32)]) (rest := []) (v := some (.int v13.1)) (h1 := v13.2) (x_Q_says hf hI k0 e14) ws_Q_195 (by decide +kernel) rfl rfl ⟨⟨Nat.le_of_ble_eq_true rfl, Nat.le_of_ble_eq_true rfl⟩, ⟨Nat.le_of_ble_eq_true rfl, Nat.le_of_ble_eq_true rfl⟩⟩ (Nat.le_of_ble_eq_true rfl) ?_
          show Go l D ad aC (rmk m_Q_told) _ m_Q_told 77 [some (.ref a0), some (.int x1), none, none, none] [.int v13.1] v13.2 0 0
          refine Go.if_eq (off := 30) (tgt := 107) (by decide +kernel) (by decide) (fun c15 => ?_) (fun c15 => ?_)
          · replace e := ite_t c15 e
            exact x_Q_told_107 hf hI k0 e
          · replace e := ite_f c15 e
            refine Go.run (pc' := 97) [.aload_n 0, .bipush (49), .bipush (48), .bipush (48), .iload_n 1, .bipush (7), .idiv, .bipush (10), .irem, .iadd, .bipush (50)] (ls' := [some (.ref a0), some (.int x1), none, none, none]) (st' := [.int (50 : Int32), .int ((48 : Int32) + ((x1 / (7 : Int32)) - (x1 / (7 : Int32)) / (10 : Int32) * (10 : Int32))), .int (48 : Int32), .int (49 : Int32), .ref a0]) (by decide +kernel) rfl rfl ?_
            obtain ⟨v16, e17, e⟩ := bd_inv e
            refine Go.callS (M2 := m_Q_says) (as := [.ref a0, .int (49 : Int32), .int (48 : Int32), .int ((48 : Int32) + ((x1 / (7 : Int32)) - (x1 / (7 : Int32)) / (10 : Int32) * (10 : Int32))), .int (50 : Int32)]) (rest := []) (v := some (.int v16.1)) (h1 := v16.2) (x_Q_says hf hI k0 e17) ws_Q_195 (by decide +kernel) rfl rfl ⟨⟨Nat.le_of_ble_eq_true rfl, Nat.le_of_ble_eq_true rfl⟩, ⟨Nat.le_of_ble_eq_true rfl, Nat.le_of_ble_eq_true rfl⟩⟩ (Nat.le_of_ble_eq_true rfl) ?_
            show Go l D ad aC (rmk m_Q_told) _ m_Q_told 100 [some (.ref a0), some (.int x1), none, none, none] [.int v16.1] v16.2 0 0
            refine Go.if_eq (off := 7) (tgt := 107) (by decide +kernel) (by decide) (fun c18 => ?_) (fun c18 => ?_)
            · replace e := ite_t c18 e
              exact x_Q_told_107 hf hI k0 e
            · replace e := ite_f c18 e
              refine Go.run (pc' := 104) [.iconst 1] (ls' := [some (.ref a0), some (.int x1), none, none, none]) (st' := [.int (1 : Int32)]) (by decide +kernel) rfl rfl ?_
              refine Go.goto (off := 4) (tgt := 108) (by decide +kernel) (by decide) ?_
              exact x_Q_told_108 hf hI k0 e
