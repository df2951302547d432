/-! printed by wip/p31/law31.py -/
def f_Q_in (h : HP) (y0 : Int64) (y2 : Int64) (y4 : Int64) : Option (Int32) :=
  if (lg_cmp y0 y2) < 0 then
    some (0 : Int32)
  else
    if 0 < (lg_cmp y0 y4) then
      some (0 : Int32)
    else
      some (1 : Int32)
set_option maxHeartbeats 4000000 in
theorem x_Q_in {l : Launch} {D : va_G} {ad : Nat → Nat} {aC : Nat → ClassId} (hf : l.flags = flags0) (hI : Inj ad) {h : HP} {y0 : Int64} {y2 : Int64} {y4 : Int64} {r : Int32}  (e : f_Q_in h y0 y2 y4 = some r) : CT l D ad aC m_Q_in [.long y0, .long y2, .long y4] h (.inl (some (.int r))) h := by
  refine CT.ofGo (by decide +kernel) rfl (Nat.le_of_ble_eq_true rfl) ?_
  unfold f_Q_in at e
  show Go l D ad aC (rmk m_Q_in) _ m_Q_in 0 [some (.long y0), none, some (.long y2), none, some (.long y4), none] [] h 0 0
  refine Go.run (pc' := 3) [.lload_n 0, .lload_n 2, .lcmp] (ls' := [some (.long y0), none, some (.long y2), none, some (.long y4), none]) (st' := [.int (lg_cmp y0 y2)]) (by decide +kernel) rfl rfl ?_
  refine Go.if_lt (off := 14) (tgt := 17) (by decide +kernel) (by decide) (fun c1 => ?_) (fun c1 => ?_)
  · replace e := ite_t c1 e
    refine Go.run (pc' := 18) [.iconst 0] (ls' := [some (.long y0), none, some (.long y2), none, some (.long y4), none]) (st' := [.int (0 : Int32)]) (by decide +kernel) rfl rfl ?_
    obtain rfl := Option.some.inj e
    exact Go.zret rfl nar_z0 (by decide) (by decide) (by decide +kernel)
  · replace e := ite_f c1 e
    refine Go.run (pc' := 10) [.lload_n 0, .lload 4, .lcmp] (ls' := [some (.long y0), none, some (.long y2), none, some (.long y4), none]) (st' := [.int (lg_cmp y0 y4)]) (by decide +kernel) rfl rfl ?_
    refine Go.if_gt (off := 7) (tgt := 17) (by decide +kernel) (by decide) (fun c2 => ?_) (fun c2 => ?_)
    · replace e := ite_t c2 e
      refine Go.run (pc' := 18) [.iconst 0] (ls' := [some (.long y0), none, some (.long y2), none, some (.long y4), none]) (st' := [.int (0 : Int32)]) (by decide +kernel) rfl rfl ?_
      obtain rfl := Option.some.inj e
      exact Go.zret rfl nar_z0 (by decide) (by decide) (by decide +kernel)
    · replace e := ite_f c2 e
      refine Go.run (pc' := 14) [.iconst 1] (ls' := [some (.long y0), none, some (.long y2), none, some (.long y4), none]) (st' := [.int (1 : Int32)]) (by decide +kernel) rfl rfl ?_
      refine Go.goto (off := 4) (tgt := 18) (by decide +kernel) (by decide) ?_
      obtain rfl := Option.some.inj e
      exact Go.zret rfl nar_z1 (by decide) (by decide) (by decide +kernel)
def f_Q_now_148 (k134_ : Nat → Int64 → Int32 → HP → Option (Int64 × HP)) : Nat → Nat → Int64 → Int32 → Int32 → HP → Option (Int64 × HP)
  | 0, _, _, _, _, _ => none
  | n + 1, a0, y1, x3, x4, h =>
    if (12 : Int32) ≤ x4 then
      k134_ a0 y1 (x3 + (1 : Int32)) h
    else
      (g_Q_dealerOf h a0 x3 x4).bind fun v2 =>
      f_Q_now_148 k134_ n a0 (((31 : Int64) * y1) + v2.1) x3 (x4 + (1 : Int32)) v2.2
set_option maxHeartbeats 4000000 in
theorem x_Q_now_148 {l : Launch} {D : va_G} {ad : Nat → Nat} {aC : Nat → ClassId} (hf : l.flags = flags0) (hI : Inj ad) {k134_ : Nat → Int64 → Int32 → HP → Option (Int64 × HP)} (K134_ : ∀ {a0 : Nat} {y1 : Int64} {x3 : Int32} {h : HP} {r : Int64 × HP}, knd a0 = 7 → k134_ a0 y1 x3 h = some r → Go l D ad aC (rmk m_Q_now) (QM D ad aC m_Q_now (.inl (some (.long r.1))) r.2) m_Q_now 134 [some (.ref a0), some (.long y1), none, some (.int x3), none, none, none] [] h 0 0) : ∀ (n : Nat) {a0 : Nat} {y1 : Int64} {x3 : Int32} {x4 : Int32} {h : HP} {r : Int64 × HP}, knd a0 = 7 → f_Q_now_148 k134_ n a0 y1 x3 x4 h = some r → Go l D ad aC (rmk m_Q_now) (QM D ad aC m_Q_now (.inl (some (.long r.1))) r.2) m_Q_now 148 [some (.ref a0), some (.long y1), none, some (.int x3), some (.int x4), none, none] [] h 0 0 := by
  intro n
  induction n with
  | zero => intro a0 y1 x3 x4 h r k0 e; exact no_none e
  | succ n ih =>
    intro a0 y1 x3 x4 h r k0 e
    rw [f_Q_now_148] at e
    refine Go.run (pc' := 152) [.iload 4, .bipush (12)] (ls' := [some (.ref a0), some (.long y1), none, some (.int x3), some (.int x4), none, none]) (st' := [.int (12 : Int32), .int x4]) (by decide +kernel) rfl rfl ?_
    refine Go.ic_ge (off := 23) (tgt := 175) (by decide +kernel) (by decide) (fun c1 => ?_) (fun c1 => ?_)
    · replace e := ite_t c1 e
      refine Go.run (pc' := 178) [.iinc 3 (1)] (ls' := [some (.ref a0), some (.long y1), none, some (.int (x3 + (1 : Int32))), some (.int x4), none, none]) (st' := []) (by decide +kernel) rfl rfl ?_
      refine Go.goto (off := -44) (tgt := 134) (by decide +kernel) (by decide) ?_
      refine Go.wk' (wks (wks (wks (wks (wkn (wks (wks wk0))))))) ?_
      exact K134_ k0 e
    · replace e := ite_f c1 e
      refine Go.ldc2 lo_Q_109 (by decide +kernel) ?_
      refine Go.run (pc' := 164) [.lload_n 1, .lmul, .aload_n 0, .iload_n 3, .iload 4] (ls' := [some (.ref a0), some (.long y1), none, some (.int x3), some (.int x4), none, none]) (st' := [.int x4, .int x3, .ref a0, .long ((31 : Int64) * y1)]) (by decide +kernel) rfl rfl ?_
      obtain ⟨v2, e3, e⟩ := bd_inv e
      refine Go.callH (M2 := (mr m_Q_dealerOf (.inl none))) (as := [.ref a0, .int x3, .int x4]) (rest := [.long ((31 : Int64) * y1)]) (v := some (.long v2.1)) (h1 := v2.2) (xn_Q_dealerOf hf hI k0 e3) (WH.mr wh_Q_126) (by decide +kernel) rfl rfl ⟨⟨Nat.le_of_ble_eq_true rfl, Nat.le_of_ble_eq_true rfl⟩, ⟨Nat.le_of_ble_eq_true rfl, Nat.le_of_ble_eq_true rfl⟩⟩ (Nat.le_of_ble_eq_true rfl) ?_
      show Go l D ad aC (rmk m_Q_now) _ m_Q_now 167 [some (.ref a0), some (.long y1), none, some (.int x3), some (.int x4), none, none] [.long v2.1, .long ((31 : Int64) * y1)] v2.2 0 0
      refine Go.run (pc' := 172) [.ladd, .lstore_n 1, .iinc 4 (1)] (ls' := [some (.ref a0), some (.long (((31 : Int64) * y1) + v2.1)), none, some (.int x3), some (.int (x4 + (1 : Int32))), none, none]) (st' := []) (by decide +kernel) rfl rfl ?_
      refine Go.goto (off := -24) (tgt := 148) (by decide +kernel) (by decide) ?_
      exact ih k0 e
def f_Q_now_134  : Nat → Nat → Int64 → Int32 → HP → Option (Int64 × HP)
  | 0, _, _, _, _ => none
  | n + 1, a0, y1, x3, h =>
    (g_Q_about h a0 (1 : Int32)).bind fun v1 =>
    if 0 ≤ (lg_cmp x3.toInt64 v1.1) then
      some (y1, v1.2)
    else
      f_Q_now_148 (f_Q_now_134 n) 4096 a0 y1 x3 (0 : Int32) v1.2
set_option maxHeartbeats 4000000 in
theorem x_Q_now_134 {l : Launch} {D : va_G} {ad : Nat → Nat} {aC : Nat → ClassId} (hf : l.flags = flags0) (hI : Inj ad) : ∀ (n : Nat) {a0 : Nat} {y1 : Int64} {x3 : Int32} {h : HP} {r : Int64 × HP}, knd a0 = 7 → f_Q_now_134 n a0 y1 x3 h = some r → Go l D ad aC (rmk m_Q_now) (QM D ad aC m_Q_now (.inl (some (.long r.1))) r.2) m_Q_now 134 [some (.ref a0), some (.long y1), none, some (.int x3), none, none, none] [] h 0 0 := by
  intro n
  induction n with
  | zero => intro a0 y1 x3 h r k0 e; exact no_none e
  | succ n ih =>
    intro a0 y1 x3 h r k0 e
    rw [f_Q_now_134] at e
    refine Go.run (pc' := 138) [.iload_n 3, .i2l, .aload_n 0, .iconst 1] (ls' := [some (.ref a0), some (.long y1), none, some (.int x3), none, none, none]) (st' := [.int (1 : Int32), .ref a0, .long x3.toInt64]) (by decide +kernel) rfl rfl ?_
    obtain ⟨v1, e2, e⟩ := bd_inv e
    refine Go.callH (M2 := (mr m_Q_about (.inl none))) (as := [.ref a0, .int (1 : Int32)]) (rest := [.long x3.toInt64]) (v := some (.long v1.1)) (h1 := v1.2) (xn_Q_about hf hI k0 e2) (WH.mr wh_Q_111) (by decide +kernel) rfl rfl ⟨⟨Nat.le_of_ble_eq_true rfl, Nat.le_of_ble_eq_true rfl⟩, ⟨Nat.le_of_ble_eq_true rfl, Nat.le_of_ble_eq_true rfl⟩⟩ (Nat.le_of_ble_eq_true rfl) ?_
    show Go l D ad aC (rmk m_Q_now) _ m_Q_now 141 [some (.ref a0), some (.long y1), none, some (.int x3), none, none, none] [.long v1.1, .long x3.toInt64] v1.2 0 0
    refine Go.run (pc' := 142) [.lcmp] (ls' := [some (.ref a0), some (.long y1), none, some (.int x3), none, none, none]) (st' := [.int (lg_cmp x3.toInt64 v1.1)]) (by decide +kernel) rfl rfl ?_
    refine Go.if_ge (off := 39) (tgt := 181) (by decide +kernel) (by decide) (fun c3 => ?_) (fun c3 => ?_)
    · replace e := ite_t c3 e
      refine Go.run (pc' := 182) [.lload_n 1] (ls' := [some (.ref a0), some (.long y1), none, some (.int x3), none, none, none]) (st' := [.long y1]) (by decide +kernel) rfl rfl ?_
      obtain rfl := Option.some.inj e
      exact Go.lret rfl (by decide) (by decide) (by decide +kernel)
    · replace e := ite_f c3 e
      refine Go.run (pc' := 148) [.iconst 0, .istore 4] (ls' := [some (.ref a0), some (.long y1), none, some (.int x3), some (.int (0 : Int32)), none, none]) (st' := []) (by decide +kernel) rfl rfl ?_
      exact x_Q_now_148 hf hI (fun kk0 e => ih kk0 e) 4096 k0 e
def f_Q_now_83 (k52_ : Nat → Int64 → Int32 → HP → Option (Int64 × HP)) : Nat → Nat → Int64 → Int32 → Int64 → Int32 → HP → Option (Int64 × HP)
  | 0, _, _, _, _, _, _ => none
  | n + 1, a0, y1, x3, y4, x6, h =>
    if 0 ≤ (lg_cmp x6.toInt64 y4) then
      k52_ a0 y1 (x3 + (1 : Int32)) h
    else
      (g_Q_metreOf h a0 x3 x6 (0 : Int32)).bind fun v2 =>
      (g_Q_metreOf v2.2 a0 x3 x6 (2 : Int32)).bind fun v4 =>
      f_Q_now_83 k52_ n a0 ((((31 : Int64) * y1) + ((97 : Int64) * v2.1)) + v4.1) x3 y4 (x6 + (1 : Int32)) v4.2
set_option maxHeartbeats 4000000 in
theorem x_Q_now_83 {l : Launch} {D : va_G} {ad : Nat → Nat} {aC : Nat → ClassId} (hf : l.flags = flags0) (hI : Inj ad) {k52_ : Nat → Int64 → Int32 → HP → Option (Int64 × HP)} (K52_ : ∀ {a0 : Nat} {y1 : Int64} {x3 : Int32} {h : HP} {r : Int64 × HP}, knd a0 = 7 → k52_ a0 y1 x3 h = some r → Go l D ad aC (rmk m_Q_now) (QM D ad aC m_Q_now (.inl (some (.long r.1))) r.2) m_Q_now 52 [some (.ref a0), some (.long y1), none, some (.int x3), none, none, none] [] h 0 0) : ∀ (n : Nat) {a0 : Nat} {y1 : Int64} {x3 : Int32} {y4 : Int64} {x6 : Int32} {h : HP} {r : Int64 × HP}, knd a0 = 7 → f_Q_now_83 k52_ n a0 y1 x3 y4 x6 h = some r → Go l D ad aC (rmk m_Q_now) (QM D ad aC m_Q_now (.inl (some (.long r.1))) r.2) m_Q_now 83 [some (.ref a0), some (.long y1), none, some (.int x3), some (.long y4), none, some (.int x6)] [] h 0 0 := by
  intro n
  induction n with
  | zero => intro a0 y1 x3 y4 x6 h r k0 e; exact no_none e
  | succ n ih =>
    intro a0 y1 x3 y4 x6 h r k0 e
    rw [f_Q_now_83] at e
    refine Go.run (pc' := 89) [.iload 6, .i2l, .lload 4, .lcmp] (ls' := [some (.ref a0), some (.long y1), none, some (.int x3), some (.long y4), none, some (.int x6)]) (st' := [.int (lg_cmp x6.toInt64 y4)]) (by decide +kernel) rfl rfl ?_
    refine Go.if_ge (off := 37) (tgt := 126) (by decide +kernel) (by decide) (fun c1 => ?_) (fun c1 => ?_)
    · replace e := ite_t c1 e
      refine Go.run (pc' := 129) [.iinc 3 (1)] (ls' := [some (.ref a0), some (.long y1), none, some (.int (x3 + (1 : Int32))), some (.long y4), none, some (.int x6)]) (st' := []) (by decide +kernel) rfl rfl ?_
      refine Go.goto (off := -77) (tgt := 52) (by decide +kernel) (by decide) ?_
      refine Go.wk' (wks (wks (wks (wks (wkn (wks (wkn wk0))))))) ?_
      exact K52_ k0 e
    · replace e := ite_f c1 e
      refine Go.ldc2 lo_Q_109 (by decide +kernel) ?_
      refine Go.run (pc' := 97) [.lload_n 1, .lmul] (ls' := [some (.ref a0), some (.long y1), none, some (.int x3), some (.long y4), none, some (.int x6)]) (st' := [.long ((31 : Int64) * y1)]) (by decide +kernel) rfl rfl ?_
      refine Go.ldc2 lo_Q_116 (by decide +kernel) ?_
      refine Go.run (pc' := 105) [.aload_n 0, .iload_n 3, .iload 6, .iconst 0] (ls' := [some (.ref a0), some (.long y1), none, some (.int x3), some (.long y4), none, some (.int x6)]) (st' := [.int (0 : Int32), .int x6, .int x3, .ref a0, .long (97 : Int64), .long ((31 : Int64) * y1)]) (by decide +kernel) rfl rfl ?_
      obtain ⟨v2, e3, e⟩ := bd_inv e
      refine Go.callH (M2 := (mr m_Q_metreOf (.inl none))) (as := [.ref a0, .int x3, .int x6, .int (0 : Int32)]) (rest := [.long (97 : Int64), .long ((31 : Int64) * y1)]) (v := some (.long v2.1)) (h1 := v2.2) (xn_Q_metreOf hf hI k0 e3) (WH.mr wh_Q_123) (by decide +kernel) rfl rfl ⟨⟨Nat.le_of_ble_eq_true rfl, Nat.le_of_ble_eq_true rfl⟩, ⟨Nat.le_of_ble_eq_true rfl, Nat.le_of_ble_eq_true rfl⟩⟩ (Nat.le_of_ble_eq_true rfl) ?_
      show Go l D ad aC (rmk m_Q_now) _ m_Q_now 108 [some (.ref a0), some (.long y1), none, some (.int x3), some (.long y4), none, some (.int x6)] [.long v2.1, .long (97 : Int64), .long ((31 : Int64) * y1)] v2.2 0 0
      refine Go.run (pc' := 115) [.lmul, .ladd, .aload_n 0, .iload_n 3, .iload 6, .iconst 2] (ls' := [some (.ref a0), some (.long y1), none, some (.int x3), some (.long y4), none, some (.int x6)]) (st' := [.int (2 : Int32), .int x6, .int x3, .ref a0, .long (((31 : Int64) * y1) + ((97 : Int64) * v2.1))]) (by decide +kernel) rfl rfl ?_
      obtain ⟨v4, e5, e⟩ := bd_inv e
      refine Go.callH (M2 := (mr m_Q_metreOf (.inl none))) (as := [.ref a0, .int x3, .int x6, .int (2 : Int32)]) (rest := [.long (((31 : Int64) * y1) + ((97 : Int64) * v2.1))]) (v := some (.long v4.1)) (h1 := v4.2) (xn_Q_metreOf hf hI k0 e5) (WH.mr wh_Q_123) (by decide +kernel) rfl rfl ⟨⟨Nat.le_of_ble_eq_true rfl, Nat.le_of_ble_eq_true rfl⟩, ⟨Nat.le_of_ble_eq_true rfl, Nat.le_of_ble_eq_true rfl⟩⟩ (Nat.le_of_ble_eq_true rfl) ?_
      show Go l D ad aC (rmk m_Q_now) _ m_Q_now 118 [some (.ref a0), some (.long y1), none, some (.int x3), some (.long y4), none, some (.int x6)] [.long v4.1, .long (((31 : Int64) * y1) + ((97 : Int64) * v2.1))] v4.2 0 0
      refine Go.run (pc' := 123) [.ladd, .lstore_n 1, .iinc 6 (1)] (ls' := [some (.ref a0), some (.long ((((31 : Int64) * y1) + ((97 : Int64) * v2.1)) + v4.1)), none, some (.int x3), some (.long y4), none, some (.int (x6 + (1 : Int32)))]) (st' := []) (by decide +kernel) rfl rfl ?_
      refine Go.goto (off := -40) (tgt := 83) (by decide +kernel) (by decide) ?_
      exact ih k0 e
def f_Q_now_52  : Nat → Nat → Int64 → Int32 → HP → Option (Int64 × HP)
  | 0, _, _, _, _ => none
  | n + 1, a0, y1, x3, h =>
    (g_Q_about h a0 (0 : Int32)).bind fun v1 =>
    if 0 ≤ (lg_cmp x3.toInt64 v1.1) then
      f_Q_now_134 4096 a0 y1 (0 : Int32) v1.2
    else
      (g_Q_wallOf v1.2 a0 x3 (0 : Int32)).bind fun v4 =>
      f_Q_now_83 (f_Q_now_52 n) 4096 a0 (((31 : Int64) * y1) + v4.1) x3 v4.1 (0 : Int32) v4.2
set_option maxHeartbeats 4000000 in
theorem x_Q_now_52 {l : Launch} {D : va_G} {ad : Nat → Nat} {aC : Nat → ClassId} (hf : l.flags = flags0) (hI : Inj ad) : ∀ (n : Nat) {a0 : Nat} {y1 : Int64} {x3 : Int32} {h : HP} {r : Int64 × HP}, knd a0 = 7 → f_Q_now_52 n a0 y1 x3 h = some r → Go l D ad aC (rmk m_Q_now) (QM D ad aC m_Q_now (.inl (some (.long r.1))) r.2) m_Q_now 52 [some (.ref a0), some (.long y1), none, some (.int x3), none, none, none] [] h 0 0 := by
  intro n
  induction n with
  | zero => intro a0 y1 x3 h r k0 e; exact no_none e
  | succ n ih =>
    intro a0 y1 x3 h r k0 e
    rw [f_Q_now_52] at e
    refine Go.run (pc' := 56) [.iload_n 3, .i2l, .aload_n 0, .iconst 0] (ls' := [some (.ref a0), some (.long y1), none, some (.int x3), none, none, none]) (st' := [.int (0 : Int32), .ref a0, .long x3.toInt64]) (by decide +kernel) rfl rfl ?_
    obtain ⟨v1, e2, e⟩ := bd_inv e
    refine Go.callH (M2 := (mr m_Q_about (.inl none))) (as := [.ref a0, .int (0 : Int32)]) (rest := [.long x3.toInt64]) (v := some (.long v1.1)) (h1 := v1.2) (xn_Q_about hf hI k0 e2) (WH.mr wh_Q_111) (by decide +kernel) rfl rfl ⟨⟨Nat.le_of_ble_eq_true rfl, Nat.le_of_ble_eq_true rfl⟩, ⟨Nat.le_of_ble_eq_true rfl, Nat.le_of_ble_eq_true rfl⟩⟩ (Nat.le_of_ble_eq_true rfl) ?_
    show Go l D ad aC (rmk m_Q_now) _ m_Q_now 59 [some (.ref a0), some (.long y1), none, some (.int x3), none, none, none] [.long v1.1, .long x3.toInt64] v1.2 0 0
    refine Go.run (pc' := 60) [.lcmp] (ls' := [some (.ref a0), some (.long y1), none, some (.int x3), none, none, none]) (st' := [.int (lg_cmp x3.toInt64 v1.1)]) (by decide +kernel) rfl rfl ?_
    refine Go.if_ge (off := 72) (tgt := 132) (by decide +kernel) (by decide) (fun c3 => ?_) (fun c3 => ?_)
    · replace e := ite_t c3 e
      refine Go.run (pc' := 134) [.iconst 0, .istore_n 3] (ls' := [some (.ref a0), some (.long y1), none, some (.int (0 : Int32)), none, none, none]) (st' := []) (by decide +kernel) rfl rfl ?_
      exact x_Q_now_134 hf hI 4096 k0 e
    · replace e := ite_f c3 e
      refine Go.run (pc' := 66) [.aload_n 0, .iload_n 3, .iconst 0] (ls' := [some (.ref a0), some (.long y1), none, some (.int x3), none, none, none]) (st' := [.int (0 : Int32), .int x3, .ref a0]) (by decide +kernel) rfl rfl ?_
      obtain ⟨v4, e5, e⟩ := bd_inv e
      refine Go.callH (M2 := (mr m_Q_wallOf (.inl none))) (as := [.ref a0, .int x3, .int (0 : Int32)]) (rest := []) (v := some (.long v4.1)) (h1 := v4.2) (xn_Q_wallOf hf hI k0 e5) (WH.mr wh_Q_120) (by decide +kernel) rfl rfl ⟨⟨Nat.le_of_ble_eq_true rfl, Nat.le_of_ble_eq_true rfl⟩, ⟨Nat.le_of_ble_eq_true rfl, Nat.le_of_ble_eq_true rfl⟩⟩ (Nat.le_of_ble_eq_true rfl) ?_
      show Go l D ad aC (rmk m_Q_now) _ m_Q_now 69 [some (.ref a0), some (.long y1), none, some (.int x3), none, none, none] [.long v4.1] v4.2 0 0
      refine Go.run (pc' := 71) [.lstore 4] (ls' := [some (.ref a0), some (.long y1), none, some (.int x3), some (.long v4.1), none, none]) (st' := []) (by decide +kernel) rfl rfl ?_
      refine Go.ldc2 lo_Q_109 (by decide +kernel) ?_
      refine Go.run (pc' := 83) [.lload_n 1, .lmul, .lload 4, .ladd, .lstore_n 1, .iconst 0, .istore 6] (ls' := [some (.ref a0), some (.long (((31 : Int64) * y1) + v4.1)), none, some (.int x3), some (.long v4.1), none, some (.int (0 : Int32))]) (st' := []) (by decide +kernel) rfl rfl ?_
      exact x_Q_now_83 hf hI (fun kk0 e => ih kk0 e) 4096 k0 e
def f_Q_now_42 (k6_ : Nat → Int64 → Int32 → HP → Option (Int64 × HP)) (a0 : Nat) (x3 : Int32) (t0 : Int64) (t1 : Int64) (h : HP) : Option (Int64 × HP) :=
  k6_ a0 (t0 + t1) (x3 + (1 : Int32)) h
set_option maxHeartbeats 4000000 in
theorem x_Q_now_42 {l : Launch} {D : va_G} {ad : Nat → Nat} {aC : Nat → ClassId} (hf : l.flags = flags0) (hI : Inj ad) {k6_ : Nat → Int64 → Int32 → HP → Option (Int64 × HP)} (K6_ : ∀ {a0 : Nat} {y1 : Int64} {x3 : Int32} {h : HP} {r : Int64 × HP}, knd a0 = 7 → k6_ a0 y1 x3 h = some r → Go l D ad aC (rmk m_Q_now) (QM D ad aC m_Q_now (.inl (some (.long r.1))) r.2) m_Q_now 6 [some (.ref a0), some (.long y1), none, some (.int x3), none, none, none] [] h 0 0) {a0 : Nat} {x3 : Int32} {t0 : Int64} {t1 : Int64} {h : HP} {r : Int64 × HP} (k0 : knd a0 = 7) (e : f_Q_now_42 k6_ a0 x3 t0 t1 h = some r) : Go l D ad aC (rmk m_Q_now) (QM D ad aC m_Q_now (.inl (some (.long r.1))) r.2) m_Q_now 42 [some (.ref a0), none, none, some (.int x3), none, none, none] [.long t1, .long t0] h 0 0 := by
  unfold f_Q_now_42 at e
  refine Go.run (pc' := 47) [.ladd, .lstore_n 1, .iinc 3 (1)] (ls' := [some (.ref a0), some (.long (t0 + t1)), none, some (.int (x3 + (1 : Int32))), none, none, none]) (st' := []) (by decide +kernel) rfl rfl ?_
  refine Go.goto (off := -41) (tgt := 6) (by decide +kernel) (by decide) ?_
  exact K6_ k0 e
def f_Q_now_6  : Nat → Nat → Int64 → Int32 → HP → Option (Int64 × HP)
  | 0, _, _, _, _ => none
  | n + 1, a0, y1, x3, h =>
    if (14 : Int32) ≤ x3 then
      f_Q_now_52 4096 a0 y1 (0 : Int32) h
    else
      (g_Q_about h a0 x3).bind fun v2 =>
      if (6 : Int32) ≤ x3 then
        f_Q_now_42 (f_Q_now_6 n) a0 x3 (((31 : Int64) * y1) + v2.1) (0 : Int64) v2.2
      else
        (g_Q_setting v2.2 a0 x3).bind fun v5 =>
        f_Q_now_42 (f_Q_now_6 n) a0 x3 (((31 : Int64) * y1) + v2.1) ((97 : Int64) * v5.1) v5.2
set_option maxHeartbeats 4000000 in
theorem x_Q_now_6 {l : Launch} {D : va_G} {ad : Nat → Nat} {aC : Nat → ClassId} (hf : l.flags = flags0) (hI : Inj ad) : ∀ (n : Nat) {a0 : Nat} {y1 : Int64} {x3 : Int32} {h : HP} {r : Int64 × HP}, knd a0 = 7 → f_Q_now_6 n a0 y1 x3 h = some r → Go l D ad aC (rmk m_Q_now) (QM D ad aC m_Q_now (.inl (some (.long r.1))) r.2) m_Q_now 6 [some (.ref a0), some (.long y1), none, some (.int x3), none, none, none] [] h 0 0 := by
  intro n
  induction n with
  | zero => intro a0 y1 x3 h r k0 e; exact no_none e
  | succ n ih =>
    intro a0 y1 x3 h r k0 e
    rw [f_Q_now_6] at e
    refine Go.run (pc' := 9) [.iload_n 3, .bipush (14)] (ls' := [some (.ref a0), some (.long y1), none, some (.int x3), none, none, none]) (st' := [.int (14 : Int32), .int x3]) (by decide +kernel) rfl rfl ?_
    refine Go.ic_ge (off := 41) (tgt := 50) (by decide +kernel) (by decide) (fun c1 => ?_) (fun c1 => ?_)
    · replace e := ite_t c1 e
      refine Go.run (pc' := 52) [.iconst 0, .istore_n 3] (ls' := [some (.ref a0), some (.long y1), none, some (.int (0 : Int32)), none, none, none]) (st' := []) (by decide +kernel) rfl rfl ?_
      exact x_Q_now_52 hf hI 4096 k0 e
    · replace e := ite_f c1 e
      refine Go.ldc2 lo_Q_109 (by decide +kernel) ?_
      refine Go.run (pc' := 19) [.lload_n 1, .lmul, .aload_n 0, .iload_n 3] (ls' := [some (.ref a0), some (.long y1), none, some (.int x3), none, none, none]) (st' := [.int x3, .ref a0, .long ((31 : Int64) * y1)]) (by decide +kernel) rfl rfl ?_
      obtain ⟨v2, e3, e⟩ := bd_inv e
      refine Go.callH (M2 := (mr m_Q_about (.inl none))) (as := [.ref a0, .int x3]) (rest := [.long ((31 : Int64) * y1)]) (v := some (.long v2.1)) (h1 := v2.2) (xn_Q_about hf hI k0 e3) (WH.mr wh_Q_111) (by decide +kernel) rfl rfl ⟨⟨Nat.le_of_ble_eq_true rfl, Nat.le_of_ble_eq_true rfl⟩, ⟨Nat.le_of_ble_eq_true rfl, Nat.le_of_ble_eq_true rfl⟩⟩ (Nat.le_of_ble_eq_true rfl) ?_
      show Go l D ad aC (rmk m_Q_now) _ m_Q_now 22 [some (.ref a0), some (.long y1), none, some (.int x3), none, none, none] [.long v2.1, .long ((31 : Int64) * y1)] v2.2 0 0
      refine Go.run (pc' := 26) [.ladd, .iload_n 3, .bipush (6)] (ls' := [some (.ref a0), some (.long y1), none, some (.int x3), none, none, none]) (st' := [.int (6 : Int32), .int x3, .long (((31 : Int64) * y1) + v2.1)]) (by decide +kernel) rfl rfl ?_
      refine Go.ic_ge (off := 15) (tgt := 41) (by decide +kernel) (by decide) (fun c4 => ?_) (fun c4 => ?_)
      · replace e := ite_t c4 e
        refine Go.run (pc' := 42) [.lconst 0] (ls' := [some (.ref a0), some (.long y1), none, some (.int x3), none, none, none]) (st' := [.long (0 : Int64), .long (((31 : Int64) * y1) + v2.1)]) (by decide +kernel) rfl rfl ?_
        refine Go.wk' (wks (wkn (wks (wks (wks (wks (wks wk0))))))) ?_
        exact x_Q_now_42 hf hI (fun kk0 e => ih kk0 e) k0 e
      · replace e := ite_f c4 e
        refine Go.ldc2 lo_Q_116 (by decide +kernel) ?_
        refine Go.run (pc' := 34) [.aload_n 0, .iload_n 3] (ls' := [some (.ref a0), some (.long y1), none, some (.int x3), none, none, none]) (st' := [.int x3, .ref a0, .long (97 : Int64), .long (((31 : Int64) * y1) + v2.1)]) (by decide +kernel) rfl rfl ?_
        obtain ⟨v5, e6, e⟩ := bd_inv e
        refine Go.callH (M2 := (mr m_Q_setting (.inl none))) (as := [.ref a0, .int x3]) (rest := [.long (97 : Int64), .long (((31 : Int64) * y1) + v2.1)]) (v := some (.long v5.1)) (h1 := v5.2) (xn_Q_setting hf hI k0 e6) (WH.mr wh_Q_118) (by decide +kernel) rfl rfl ⟨⟨Nat.le_of_ble_eq_true rfl, Nat.le_of_ble_eq_true rfl⟩, ⟨Nat.le_of_ble_eq_true rfl, Nat.le_of_ble_eq_true rfl⟩⟩ (Nat.le_of_ble_eq_true rfl) ?_
        show Go l D ad aC (rmk m_Q_now) _ m_Q_now 37 [some (.ref a0), some (.long y1), none, some (.int x3), none, none, none] [.long v5.1, .long (97 : Int64), .long (((31 : Int64) * y1) + v2.1)] v5.2 0 0
        refine Go.run (pc' := 38) [.lmul] (ls' := [some (.ref a0), some (.long y1), none, some (.int x3), none, none, none]) (st' := [.long ((97 : Int64) * v5.1), .long (((31 : Int64) * y1) + v2.1)]) (by decide +kernel) rfl rfl ?_
        refine Go.goto (off := 4) (tgt := 42) (by decide +kernel) (by decide) ?_
        refine Go.wk' (wks (wkn (wks (wks (wks (wks (wks wk0))))))) ?_
        exact x_Q_now_42 hf hI (fun kk0 e => ih kk0 e) k0 e
def f_Q_now (h : HP) (a0 : Nat) : Option (Int64 × HP) :=
  f_Q_now_6 4096 a0 (149 : Int64) (0 : Int32) h
set_option maxHeartbeats 4000000 in
theorem x_Q_now {l : Launch} {D : va_G} {ad : Nat → Nat} {aC : Nat → ClassId} (hf : l.flags = flags0) (hI : Inj ad) {h : HP} {a0 : Nat} {r : Int64 × HP} (k0 : knd a0 = 7) (e : f_Q_now h a0 = some r) : CT l D ad aC m_Q_now [.ref a0] h (.inl (some (.long r.1))) r.2 := by
  refine CT.ofGo (by decide +kernel) rfl (Nat.le_of_ble_eq_true rfl) ?_
  unfold f_Q_now at e
  show Go l D ad aC (rmk m_Q_now) _ m_Q_now 0 [some (.ref a0), none, none, none, none, none, none] [] h 0 0
  refine Go.ldc2 lo_Q_107 (by decide +kernel) ?_
  refine Go.run (pc' := 6) [.lstore_n 1, .iconst 0, .istore_n 3] (ls' := [some (.ref a0), some (.long (149 : Int64)), none, some (.int (0 : Int32)), none, none, none]) (st' := []) (by decide +kernel) rfl rfl ?_
  exact x_Q_now_6 hf hI 4096 k0 e
def f_Q_says (h : HP) (a0 : Nat) (x1 : Int32) (x2 : Int32) (x3 : Int32) (x4 : Int32) : Option (Int32 × HP) :=
  (g_Q_append h a0 x1).bind fun v1 =>
  if (lg_cmp v1.1 (0 : Int64)) ≤ 0 then
    some ((0 : Int32), v1.2)
  else
    (g_Q_append v1.2 a0 x2).bind fun v4 =>
    if (lg_cmp v4.1 (0 : Int64)) ≤ 0 then
      some ((0 : Int32), v4.2)
    else
      (g_Q_append v4.2 a0 x3).bind fun v7 =>
      if (lg_cmp v7.1 (0 : Int64)) ≤ 0 then
        some ((0 : Int32), v7.2)
      else
        (g_Q_append v7.2 a0 x4).bind fun v10 =>
        if (lg_cmp v10.1 (0 : Int64)) ≤ 0 then
          some ((0 : Int32), v10.2)
        else
          some ((1 : Int32), v10.2)
set_option maxHeartbeats 4000000 in
theorem x_Q_says {l : Launch} {D : va_G} {ad : Nat → Nat} {aC : Nat → ClassId} (hf : l.flags = flags0) (hI : Inj ad) {h : HP} {a0 : Nat} {x1 : Int32} {x2 : Int32} {x3 : Int32} {x4 : Int32} {r : Int32 × HP} (k0 : knd a0 = 7) (e : f_Q_says h a0 x1 x2 x3 x4 = some r) : CT l D ad aC m_Q_says [.ref a0, .int x1, .int x2, .int x3, .int x4] h (.inl (some (.int r.1))) r.2 := by
  refine CT.ofGo (by decide +kernel) rfl (Nat.le_of_ble_eq_true rfl) ?_
  unfold f_Q_says at e
  show Go l D ad aC (rmk m_Q_says) _ m_Q_says 0 [some (.ref a0), some (.int x1), some (.int x2), some (.int x3), some (.int x4)] [] h 0 0
  refine Go.run (pc' := 2) [.aload_n 0, .iload_n 1] (ls' := [some (.ref a0), some (.int x1), some (.int x2), some (.int x3), some (.int x4)]) (st' := [.int x1, .ref a0]) (by decide +kernel) rfl rfl ?_
  obtain ⟨v1, e2, e⟩ := bd_inv e
  refine Go.callH (M2 := (mr m_Q_append (.inl none))) (as := [.ref a0, .int x1]) (rest := []) (v := some (.long v1.1)) (h1 := v1.2) (xn_Q_append hf hI k0 e2) (WH.mr wh_Q_175) (by decide +kernel) rfl rfl ⟨⟨Nat.le_of_ble_eq_true rfl, Nat.le_of_ble_eq_true rfl⟩, ⟨Nat.le_of_ble_eq_true rfl, Nat.le_of_ble_eq_true rfl⟩⟩ (Nat.le_of_ble_eq_true rfl) ?_
  show Go l D ad aC (rmk m_Q_says) _ m_Q_says 5 [some (.ref a0), some (.int x1), some (.int x2), some (.int x3), some (.int x4)] [.long v1.1] v1.2 0 0
  refine Go.run (pc' := 7) [.lconst 0, .lcmp] (ls' := [some (.ref a0), some (.int x1), some (.int x2), some (.int x3), some (.int x4)]) (st' := [.int (lg_cmp v1.1 (0 : Int64))]) (by decide +kernel) rfl rfl ?_
  refine Go.if_le (off := 38) (tgt := 45) (by decide +kernel) (by decide) (fun c3 => ?_) (fun c3 => ?_)
  · replace e := ite_t c3 e
    refine Go.run (pc' := 46) [.iconst 0] (ls' := [some (.ref a0), some (.int x1), some (.int x2), some (.int x3), some (.int x4)]) (st' := [.int (0 : Int32)]) (by decide +kernel) rfl rfl ?_
    obtain rfl := Option.some.inj e
    exact Go.zret rfl nar_z0 (by decide) (by decide) (by decide +kernel)
  · replace e := ite_f c3 e
    refine Go.run (pc' := 12) [.aload_n 0, .iload_n 2] (ls' := [some (.ref a0), some (.int x1), some (.int x2), some (.int x3), some (.int x4)]) (st' := [.int x2, .ref a0]) (by decide +kernel) rfl rfl ?_
    obtain ⟨v4, e5, e⟩ := bd_inv e
    refine Go.callH (M2 := (mr m_Q_append (.inl none))) (as := [.ref a0, .int x2]) (rest := []) (v := some (.long v4.1)) (h1 := v4.2) (xn_Q_append hf hI k0 e5) (WH.mr wh_Q_175) (by decide +kernel) rfl rfl ⟨⟨Nat.le_of_ble_eq_true rfl, Nat.le_of_ble_eq_true rfl⟩, ⟨Nat.le_of_ble_eq_true rfl, Nat.le_of_ble_eq_true rfl⟩⟩ (Nat.le_of_ble_eq_true rfl) ?_
    show Go l D ad aC (rmk m_Q_says) _ m_Q_says 15 [some (.ref a0), some (.int x1), some (.int x2), some (.int x3), some (.int x4)] [.long v4.1] v4.2 0 0
    refine Go.run (pc' := 17) [.lconst 0, .lcmp] (ls' := [some (.ref a0), some (.int x1), some (.int x2), some (.int x3), some (.int x4)]) (st' := [.int (lg_cmp v4.1 (0 : Int64))]) (by decide +kernel) rfl rfl ?_
    refine Go.if_le (off := 28) (tgt := 45) (by decide +kernel) (by decide) (fun c6 => ?_) (fun c6 => ?_)
    · replace e := ite_t c6 e
      refine Go.run (pc' := 46) [.iconst 0] (ls' := [some (.ref a0), some (.int x1), some (.int x2), some (.int x3), some (.int x4)]) (st' := [.int (0 : Int32)]) (by decide +kernel) rfl rfl ?_
      obtain rfl := Option.some.inj e
      exact Go.zret rfl nar_z0 (by decide) (by decide) (by decide +kernel)
    · replace e := ite_f c6 e
      refine Go.run (pc' := 22) [.aload_n 0, .iload_n 3] (ls' := [some (.ref a0), some (.int x1), some (.int x2), some (.int x3), some (.int x4)]) (st' := [.int x3, .ref a0]) (by decide +kernel) rfl rfl ?_
      obtain ⟨v7, e8, e⟩ := bd_inv e
      refine Go.callH (M2 := (mr m_Q_append (.inl none))) (as := [.ref a0, .int x3]) (rest := []) (v := some (.long v7.1)) (h1 := v7.2) (xn_Q_append hf hI k0 e8) (WH.mr wh_Q_175) (by decide +kernel) rfl rfl ⟨⟨Nat.le_of_ble_eq_true rfl, Nat.le_of_ble_eq_true rfl⟩, ⟨Nat.le_of_ble_eq_true rfl, Nat.le_of_ble_eq_true rfl⟩⟩ (Nat.le_of_ble_eq_true rfl) ?_
      show Go l D ad aC (rmk m_Q_says) _ m_Q_says 25 [some (.ref a0), some (.int x1), some (.int x2), some (.int x3), some (.int x4)] [.long v7.1] v7.2 0 0
      refine Go.run (pc' := 27) [.lconst 0, .lcmp] (ls' := [some (.ref a0), some (.int x1), some (.int x2), some (.int x3), some (.int x4)]) (st' := [.int (lg_cmp v7.1 (0 : Int64))]) (by decide +kernel) rfl rfl ?_
      refine Go.if_le (off := 18) (tgt := 45) (by decide +kernel) (by decide) (fun c9 => ?_) (fun c9 => ?_)
      · replace e := ite_t c9 e
        refine Go.run (pc' := 46) [.iconst 0] (ls' := [some (.ref a0), some (.int x1), some (.int x2), some (.int x3), some (.int x4)]) (st' := [.int (0 : Int32)]) (by decide +kernel) rfl rfl ?_
        obtain rfl := Option.some.inj e
        exact Go.zret rfl nar_z0 (by decide) (by decide) (by decide +kernel)
      · replace e := ite_f c9 e
        refine Go.run (pc' := 33) [.aload_n 0, .iload 4] (ls' := [some (.ref a0), some (.int x1), some (.int x2), some (.int x3), some (.int x4)]) (st' := [.int x4, .ref a0]) (by decide +kernel) rfl rfl ?_
        obtain ⟨v10, e11, e⟩ := bd_inv e
        refine Go.callH (M2 := (mr m_Q_append (.inl none))) (as := [.ref a0, .int x4]) (rest := []) (v := some (.long v10.1)) (h1 := v10.2) (xn_Q_append hf hI k0 e11) (WH.mr wh_Q_175) (by decide +kernel) rfl rfl ⟨⟨Nat.le_of_ble_eq_true rfl, Nat.le_of_ble_eq_true rfl⟩, ⟨Nat.le_of_ble_eq_true rfl, Nat.le_of_ble_eq_true rfl⟩⟩ (Nat.le_of_ble_eq_true rfl) ?_
        show Go l D ad aC (rmk m_Q_says) _ m_Q_says 36 [some (.ref a0), some (.int x1), some (.int x2), some (.int x3), some (.int x4)] [.long v10.1] v10.2 0 0
        refine Go.run (pc' := 38) [.lconst 0, .lcmp] (ls' := [some (.ref a0), some (.int x1), some (.int x2), some (.int x3), some (.int x4)]) (st' := [.int (lg_cmp v10.1 (0 : Int64))]) (by decide +kernel) rfl rfl ?_
        refine Go.if_le (off := 7) (tgt := 45) (by decide +kernel) (by decide) (fun c12 => ?_) (fun c12 => ?_)
        · replace e := ite_t c12 e
          refine Go.run (pc' := 46) [.iconst 0] (ls' := [some (.ref a0), some (.int x1), some (.int x2), some (.int x3), some (.int x4)]) (st' := [.int (0 : Int32)]) (by decide +kernel) rfl rfl ?_
          obtain rfl := Option.some.inj e
          exact Go.zret rfl nar_z0 (by decide) (by decide) (by decide +kernel)
        · replace e := ite_f c12 e
          refine Go.run (pc' := 42) [.iconst 1] (ls' := [some (.ref a0), some (.int x1), some (.int x2), some (.int x3), some (.int x4)]) (st' := [.int (1 : Int32)]) (by decide +kernel) rfl rfl ?_
          refine Go.goto (off := 4) (tgt := 46) (by decide +kernel) (by decide) ?_
          obtain rfl := Option.some.inj e
          exact Go.zret rfl nar_z1 (by decide) (by decide) (by decide +kernel)
def f_Q_act (h : HP) (a0 : Nat) (x1 : Int32) (x2 : Int32) : Option (Int64 × HP) :=
  if (x1 - x1 / (24 : Int32) * (24 : Int32)) = 0 then
    (f_Q_wall h a0 ((4 : Int32) + (x2 - x2 / (27 : Int32) * (27 : Int32)))).bind fun v2 =>
    some (v2.1, v2.2)
  else
    if (x1 - x1 / (24 : Int32) * (24 : Int32)) = 1 then
      (f_Q_outlet h a0 (x2 - x2 / (4 : Int32) * (4 : Int32)) ((x2 / (32 : Int32)) - (x2 / (32 : Int32)) / (14 : Int32) * (14 : Int32)) (((x2 / (32 : Int32)) / (14 : Int32)) - ((x2 / (32 : Int32)) / (14 : Int32)) / (5 : Int32) * (5 : Int32))).bind fun v5 =>
      some (v5.1, v5.2)
    else
      if (x1 - x1 / (24 : Int32) * (24 : Int32)) = 2 then
        (f_Q_outlet h a0 (x2 - x2 / (4 : Int32) * (4 : Int32)) ((x2 / (32 : Int32)) - (x2 / (32 : Int32)) / (14 : Int32) * (14 : Int32)) (((x2 / (32 : Int32)) / (14 : Int32)) - ((x2 / (32 : Int32)) / (14 : Int32)) / (5 : Int32) * (5 : Int32))).bind fun v8 =>
        some (v8.1, v8.2)
      else
        if (x1 - x1 / (24 : Int32) * (24 : Int32)) = 3 then
          (f_Q_outlet h a0 (x2 - x2 / (4 : Int32) * (4 : Int32)) ((x2 / (32 : Int32)) - (x2 / (32 : Int32)) / (14 : Int32) * (14 : Int32)) (((x2 / (32 : Int32)) / (14 : Int32)) - ((x2 / (32 : Int32)) / (14 : Int32)) / (5 : Int32) * (5 : Int32))).bind fun v11 =>
          some (v11.1, v11.2)
        else
          if (x1 - x1 / (24 : Int32) * (24 : Int32)) = 4 then
            (f_Q_dealer h a0 (x2 - x2 / (3 : Int32) * (3 : Int32)) ((1 : Int32) + ((x2 / (32 : Int32)) - (x2 / (32 : Int32)) / (6 : Int32) * (6 : Int32))) (((x2 / (32 : Int32)) / (8 : Int32)) - ((x2 / (32 : Int32)) / (8 : Int32)) / (4 : Int32) * (4 : Int32))).bind fun v14 =>
            some (v14.1, v14.2)
          else
            if (x1 - x1 / (24 : Int32) * (24 : Int32)) = 5 then
              (f_Q_dealer h a0 (x2 - x2 / (3 : Int32) * (3 : Int32)) ((1 : Int32) + ((x2 / (32 : Int32)) - (x2 / (32 : Int32)) / (6 : Int32) * (6 : Int32))) (((x2 / (32 : Int32)) / (8 : Int32)) - ((x2 / (32 : Int32)) / (8 : Int32)) / (4 : Int32) * (4 : Int32))).bind fun v17 =>
              some (v17.1, v17.2)
            else
              if (x1 - x1 / (24 : Int32) * (24 : Int32)) = 6 then
                (f_Q_dealer h a0 (x2 - x2 / (3 : Int32) * (3 : Int32)) ((1 : Int32) + ((x2 / (32 : Int32)) - (x2 / (32 : Int32)) / (6 : Int32) * (6 : Int32))) (((x2 / (32 : Int32)) / (8 : Int32)) - ((x2 / (32 : Int32)) / (8 : Int32)) / (4 : Int32) * (4 : Int32))).bind fun v20 =>
                some (v20.1, v20.2)
              else
                if (x1 - x1 / (24 : Int32) * (24 : Int32)) = 7 then
                  (f_Q_place h a0 (x2 - x2 / (6 : Int32) * (6 : Int32)) ((x2 / (32 : Int32)) - (x2 / (32 : Int32)) / (3 : Int32) * (3 : Int32)) (((x2 / (32 : Int32)) / (4 : Int32)) - ((x2 / (32 : Int32)) / (4 : Int32)) / (24 : Int32) * (24 : Int32))).bind fun v23 =>
                  some (v23.1, v23.2)
                else
                  if (x1 - x1 / (24 : Int32) * (24 : Int32)) = 8 then
                    (f_Q_place h a0 (x2 - x2 / (6 : Int32) * (6 : Int32)) ((x2 / (32 : Int32)) - (x2 / (32 : Int32)) / (3 : Int32) * (3 : Int32)) (((x2 / (32 : Int32)) / (4 : Int32)) - ((x2 / (32 : Int32)) / (4 : Int32)) / (24 : Int32) * (24 : Int32))).bind fun v26 =>
                    some (v26.1, v26.2)
                  else
                    if (x1 - x1 / (24 : Int32) * (24 : Int32)) = 9 then
                      (f_Q_place h a0 (x2 - x2 / (6 : Int32) * (6 : Int32)) ((x2 / (32 : Int32)) - (x2 / (32 : Int32)) / (3 : Int32) * (3 : Int32)) (((x2 / (32 : Int32)) / (4 : Int32)) - ((x2 / (32 : Int32)) / (4 : Int32)) / (24 : Int32) * (24 : Int32))).bind fun v29 =>
                      some (v29.1, v29.2)
                    else
                      if (x1 - x1 / (24 : Int32) * (24 : Int32)) = 10 then
                        (f_Q_place h a0 (x2 - x2 / (6 : Int32) * (6 : Int32)) ((x2 / (32 : Int32)) - (x2 / (32 : Int32)) / (3 : Int32) * (3 : Int32)) (((x2 / (32 : Int32)) / (4 : Int32)) - ((x2 / (32 : Int32)) / (4 : Int32)) / (24 : Int32) * (24 : Int32))).bind fun v32 =>
                        some (v32.1, v32.2)
                      else
                        if (x1 - x1 / (24 : Int32) * (24 : Int32)) = 11 then
                          (f_Q_place h a0 (x2 - x2 / (6 : Int32) * (6 : Int32)) ((x2 / (32 : Int32)) - (x2 / (32 : Int32)) / (3 : Int32) * (3 : Int32)) (((x2 / (32 : Int32)) / (4 : Int32)) - ((x2 / (32 : Int32)) / (4 : Int32)) / (24 : Int32) * (24 : Int32))).bind fun v35 =>
                          some (v35.1, v35.2)
                        else
                          if (x1 - x1 / (24 : Int32) * (24 : Int32)) = 12 then
                            (f_Q_place h a0 (x2 - x2 / (6 : Int32) * (6 : Int32)) ((x2 / (32 : Int32)) - (x2 / (32 : Int32)) / (3 : Int32) * (3 : Int32)) (((x2 / (32 : Int32)) / (4 : Int32)) - ((x2 / (32 : Int32)) / (4 : Int32)) / (24 : Int32) * (24 : Int32))).bind fun v38 =>
                            some (v38.1, v38.2)
                          else
                            if (x1 - x1 / (24 : Int32) * (24 : Int32)) = 13 then
                              (f_Q_leave h a0 (x2 - x2 / (6 : Int32) * (6 : Int32))).bind fun v41 =>
                              some (v41.1, v41.2)
                            else
                              if (x1 - x1 / (24 : Int32) * (24 : Int32)) = 14 then
                                (f_Q_swap h a0 (x2 - x2 / (6 : Int32) * (6 : Int32)) ((x2 / (32 : Int32)) - (x2 / (32 : Int32)) / (6 : Int32) * (6 : Int32))).bind fun v44 =>
                                some (v44.1, v44.2)
                              else
                                if (x1 - x1 / (24 : Int32) * (24 : Int32)) = 15 then
                                  (f_Q_swap h a0 (x2 - x2 / (6 : Int32) * (6 : Int32)) ((x2 / (32 : Int32)) - (x2 / (32 : Int32)) / (6 : Int32) * (6 : Int32))).bind fun v47 =>
                                  some (v47.1, v47.2)
                                else
                                  if (x1 - x1 / (24 : Int32) * (24 : Int32)) = 16 then
                                    (f_Q_swap h a0 (x2 - x2 / (6 : Int32) * (6 : Int32)) ((x2 / (32 : Int32)) - (x2 / (32 : Int32)) / (6 : Int32) * (6 : Int32))).bind fun v50 =>
                                    some (v50.1, v50.2)
                                  else
                                    if (x1 - x1 / (24 : Int32) * (24 : Int32)) = 17 then
                                      (f_Q_days h a0 ((1 : Int32) + (x2 - x2 / (7 : Int32) * (7 : Int32)))).bind fun v53 =>
                                      some (v53.1, v53.2)
                                    else
                                      if (x1 - x1 / (24 : Int32) * (24 : Int32)) = 18 then
                                        (f_Q_days h a0 ((1 : Int32) + (x2 - x2 / (7 : Int32) * (7 : Int32)))).bind fun v56 =>
                                        some (v56.1, v56.2)
                                      else
                                        if (x1 - x1 / (24 : Int32) * (24 : Int32)) = 19 then
                                          (f_Q_set h a0 (x2 - x2 / (6 : Int32) * (6 : Int32)) ((x2 / (32 : Int32)) - (x2 / (32 : Int32)) / (10 : Int32) * (10 : Int32))).bind fun v59 =>
                                          some (v59.1, v59.2)
                                        else
                                          if (x1 - x1 / (24 : Int32) * (24 : Int32)) = 20 then
                                            (f_Q_undo h a0).bind fun v62 =>
                                            some (v62.1, v62.2)
                                          else
                                            if (x1 - x1 / (24 : Int32) * (24 : Int32)) = 21 then
                                              (f_Q_undo h a0).bind fun v65 =>
                                              some (v65.1, v65.2)
                                            else
                                              if ((x2 / (32 : Int32)) - (x2 / (32 : Int32)) / (2 : Int32) * (2 : Int32)) = 0 then
                                                (f_Q_save h a0 (((x2 / (32 : Int32)) / (2 : Int32)) &&& (1 : Int32))).bind fun v70 =>
                                                some (v70.1, v70.2)
                                              else
                                                (f_Q_restore h a0 (((x2 / (32 : Int32)) / (2 : Int32)) &&& (1 : Int32))).bind fun v68 =>
                                                some (v68.1, v68.2)
set_option maxHeartbeats 4000000 in
theorem x_Q_act {l : Launch} {D : va_G} {ad : Nat → Nat} {aC : Nat → ClassId} (hf : l.flags = flags0) (hI : Inj ad) {h : HP} {a0 : Nat} {x1 : Int32} {x2 : Int32} {r : Int64 × HP} (k0 : knd a0 = 7) (e : f_Q_act h a0 x1 x2 = some r) : CT l D ad aC m_Q_act [.ref a0, .int x1, .int x2] h (.inl (some (.long r.1))) r.2 := by
  refine CT.ofGo (by decide +kernel) rfl (Nat.le_of_ble_eq_true rfl) ?_
  unfold f_Q_act at e
  show Go l D ad aC (rmk m_Q_act) _ m_Q_act 0 [some (.ref a0), some (.int x1), some (.int x2), none] [] h 0 0
  refine Go.run (pc' := 9) [.iload_n 2, .bipush (32), .idiv, .istore_n 3, .iload_n 1, .bipush (24), .irem] (ls' := [some (.ref a0), some (.int x1), some (.int x2), some (.int (x2 / (32 : Int32)))]) (st' := [.int (x1 - x1 / (24 : Int32) * (24 : Int32))]) (by decide +kernel) rfl rfl ?_
  rcases Decidable.em ((x1 - x1 / (24 : Int32) * (24 : Int32)) = 0) with c1 | c1
  · replace e := ite_t c1 e
    refine Go.tsIn (dflt := 221) (lo := 0) (hi := 21) (offs := #[103, 114, 114, 114, 132, 132, 132, 152, 152, 152, 152, 152, 152, 170, 179, 179, 179, 192, 192, 203, 216, 216]) (len := 103) (off := 103) (tgt := 112) 0 (by decide +kernel) (by rw [c1]; decide) (by decide) (by decide) (by decide) (by decide) ?_
    refine Go.run (pc' := 119) [.aload_n 0, .iconst 4, .iload_n 2, .bipush (27), .irem, .iadd] (ls' := [some (.ref a0), some (.int x1), some (.int x2), some (.int (x2 / (32 : Int32)))]) (st' := [.int ((4 : Int32) + (x2 - x2 / (27 : Int32) * (27 : Int32))), .ref a0]) (by decide +kernel) rfl rfl ?_
    obtain ⟨v2, e3, e⟩ := bd_inv e
    refine Go.callH (M2 := m_Q_wall) (as := [.ref a0, .int ((4 : Int32) + (x2 - x2 / (27 : Int32) * (27 : Int32)))]) (rest := []) (v := some (.long v2.1)) (h1 := v2.2) (x_Q_wall hf hI k0 e3) wh_Q_136 (by decide +kernel) rfl rfl ⟨⟨Nat.le_of_ble_eq_true rfl, Nat.le_of_ble_eq_true rfl⟩, ⟨Nat.le_of_ble_eq_true rfl, Nat.le_of_ble_eq_true rfl⟩⟩ (Nat.le_of_ble_eq_true rfl) ?_
    show Go l D ad aC (rmk m_Q_act) _ m_Q_act 122 [some (.ref a0), some (.int x1), some (.int x2), some (.int (x2 / (32 : Int32)))] [.long v2.1] v2.2 1 6
    obtain rfl := Option.some.inj e
    exact Go.lret rfl (by decide) (by decide) (by decide +kernel)
  replace e := ite_f c1 e
  rcases Decidable.em ((x1 - x1 / (24 : Int32) * (24 : Int32)) = 1) with c4 | c4
  · replace e := ite_t c4 e
    refine Go.tsIn (dflt := 221) (lo := 0) (hi := 21) (offs := #[103, 114, 114, 114, 132, 132, 132, 152, 152, 152, 152, 152, 152, 170, 179, 179, 179, 192, 192, 203, 216, 216]) (len := 103) (off := 114) (tgt := 123) 1 (by decide +kernel) (by rw [c4]; decide) (by decide) (by decide) (by decide) (by decide) ?_
    refine Go.run (pc' := 137) [.aload_n 0, .iload_n 2, .iconst 4, .irem, .iload_n 3, .bipush (14), .irem, .iload_n 3, .bipush (14), .idiv, .iconst 5, .irem] (ls' := [some (.ref a0), some (.int x1), some (.int x2), some (.int (x2 / (32 : Int32)))]) (st' := [.int (((x2 / (32 : Int32)) / (14 : Int32)) - ((x2 / (32 : Int32)) / (14 : Int32)) / (5 : Int32) * (5 : Int32)), .int ((x2 / (32 : Int32)) - (x2 / (32 : Int32)) / (14 : Int32) * (14 : Int32)), .int (x2 - x2 / (4 : Int32) * (4 : Int32)), .ref a0]) (by decide +kernel) rfl rfl ?_
    obtain ⟨v5, e6, e⟩ := bd_inv e
    refine Go.callH (M2 := m_Q_outlet) (as := [.ref a0, .int (x2 - x2 / (4 : Int32) * (4 : Int32)), .int ((x2 / (32 : Int32)) - (x2 / (32 : Int32)) / (14 : Int32) * (14 : Int32)), .int (((x2 / (32 : Int32)) / (14 : Int32)) - ((x2 / (32 : Int32)) / (14 : Int32)) / (5 : Int32) * (5 : Int32))]) (rest := []) (v := some (.long v5.1)) (h1 := v5.2) (x_Q_outlet hf hI k0 e6) wh_Q_138 (by decide +kernel) rfl rfl ⟨⟨Nat.le_of_ble_eq_true rfl, Nat.le_of_ble_eq_true rfl⟩, ⟨Nat.le_of_ble_eq_true rfl, Nat.le_of_ble_eq_true rfl⟩⟩ (Nat.le_of_ble_eq_true rfl) ?_
    show Go l D ad aC (rmk m_Q_act) _ m_Q_act 140 [some (.ref a0), some (.int x1), some (.int x2), some (.int (x2 / (32 : Int32)))] [.long v5.1] v5.2 1 6
    obtain rfl := Option.some.inj e
    exact Go.lret rfl (by decide) (by decide) (by decide +kernel)
  replace e := ite_f c4 e
  rcases Decidable.em ((x1 - x1 / (24 : Int32) * (24 : Int32)) = 2) with c7 | c7
  · replace e := ite_t c7 e
    refine Go.tsIn (dflt := 221) (lo := 0) (hi := 21) (offs := #[103, 114, 114, 114, 132, 132, 132, 152, 152, 152, 152, 152, 152, 170, 179, 179, 179, 192, 192, 203, 216, 216]) (len := 103) (off := 114) (tgt := 123) 2 (by decide +kernel) (by rw [c7]; decide) (by decide) (by decide) (by decide) (by decide) ?_
    refine Go.run (pc' := 137) [.aload_n 0, .iload_n 2, .iconst 4, .irem, .iload_n 3, .bipush (14), .irem, .iload_n 3, .bipush (14), .idiv, .iconst 5, .irem] (ls' := [some (.ref a0), some (.int x1), some (.int x2), some (.int (x2 / (32 : Int32)))]) (st' := [.int (((x2 / (32 : Int32)) / (14 : Int32)) - ((x2 / (32 : Int32)) / (14 : Int32)) / (5 : Int32) * (5 : Int32)), .int ((x2 / (32 : Int32)) - (x2 / (32 : Int32)) / (14 : Int32) * (14 : Int32)), .int (x2 - x2 / (4 : Int32) * (4 : Int32)), .ref a0]) (by decide +kernel) rfl rfl ?_
    obtain ⟨v8, e9, e⟩ := bd_inv e
    refine Go.callH (M2 := m_Q_outlet) (as := [.ref a0, .int (x2 - x2 / (4 : Int32) * (4 : Int32)), .int ((x2 / (32 : Int32)) - (x2 / (32 : Int32)) / (14 : Int32) * (14 : Int32)), .int (((x2 / (32 : Int32)) / (14 : Int32)) - ((x2 / (32 : Int32)) / (14 : Int32)) / (5 : Int32) * (5 : Int32))]) (rest := []) (v := some (.long v8.1)) (h1 := v8.2) (x_Q_outlet hf hI k0 e9) wh_Q_138 (by decide +kernel) rfl rfl ⟨⟨Nat.le_of_ble_eq_true rfl, Nat.le_of_ble_eq_true rfl⟩, ⟨Nat.le_of_ble_eq_true rfl, Nat.le_of_ble_eq_true rfl⟩⟩ (Nat.le_of_ble_eq_true rfl) ?_
    show Go l D ad aC (rmk m_Q_act) _ m_Q_act 140 [some (.ref a0), some (.int x1), some (.int x2), some (.int (x2 / (32 : Int32)))] [.long v8.1] v8.2 1 6
    obtain rfl := Option.some.inj e
    exact Go.lret rfl (by decide) (by decide) (by decide +kernel)
  replace e := ite_f c7 e
  rcases Decidable.em ((x1 - x1 / (24 : Int32) * (24 : Int32)) = 3) with c10 | c10
  · replace e := ite_t c10 e
    refine Go.tsIn (dflt := 221) (lo := 0) (hi := 21) (offs := #[103, 114, 114, 114, 132, 132, 132, 152, 152, 152, 152, 152, 152, 170, 179, 179, 179, 192, 192, 203, 216, 216]) (len := 103) (off := 114) (tgt := 123) 3 (by decide +kernel) (by rw [c10]; decide) (by decide) (by decide) (by decide) (by decide) ?_
    refine Go.run (pc' := 137) [.aload_n 0, .iload_n 2, .iconst 4, .irem, .iload_n 3, .bipush (14), .irem, .iload_n 3, .bipush (14), .idiv, .iconst 5, .irem] (ls' := [some (.ref a0), some (.int x1), some (.int x2), some (.int (x2 / (32 : Int32)))]) (st' := [.int (((x2 / (32 : Int32)) / (14 : Int32)) - ((x2 / (32 : Int32)) / (14 : Int32)) / (5 : Int32) * (5 : Int32)), .int ((x2 / (32 : Int32)) - (x2 / (32 : Int32)) / (14 : Int32) * (14 : Int32)), .int (x2 - x2 / (4 : Int32) * (4 : Int32)), .ref a0]) (by decide +kernel) rfl rfl ?_
    obtain ⟨v11, e12, e⟩ := bd_inv e
    refine Go.callH (M2 := m_Q_outlet) (as := [.ref a0, .int (x2 - x2 / (4 : Int32) * (4 : Int32)), .int ((x2 / (32 : Int32)) - (x2 / (32 : Int32)) / (14 : Int32) * (14 : Int32)), .int (((x2 / (32 : Int32)) / (14 : Int32)) - ((x2 / (32 : Int32)) / (14 : Int32)) / (5 : Int32) * (5 : Int32))]) (rest := []) (v := some (.long v11.1)) (h1 := v11.2) (x_Q_outlet hf hI k0 e12) wh_Q_138 (by decide +kernel) rfl rfl ⟨⟨Nat.le_of_ble_eq_true rfl, Nat.le_of_ble_eq_true rfl⟩, ⟨Nat.le_of_ble_eq_true rfl, Nat.le_of_ble_eq_true rfl⟩⟩ (Nat.le_of_ble_eq_true rfl) ?_
    show Go l D ad aC (rmk m_Q_act) _ m_Q_act 140 [some (.ref a0), some (.int x1), some (.int x2), some (.int (x2 / (32 : Int32)))] [.long v11.1] v11.2 1 6
    obtain rfl := Option.some.inj e
    exact Go.lret rfl (by decide) (by decide) (by decide +kernel)
  replace e := ite_f c10 e
  rcases Decidable.em ((x1 - x1 / (24 : Int32) * (24 : Int32)) = 4) with c13 | c13
  · replace e := ite_t c13 e
    refine Go.tsIn (dflt := 221) (lo := 0) (hi := 21) (offs := #[103, 114, 114, 114, 132, 132, 132, 152, 152, 152, 152, 152, 152, 170, 179, 179, 179, 192, 192, 203, 216, 216]) (len := 103) (off := 132) (tgt := 141) 4 (by decide +kernel) (by rw [c13]; decide) (by decide) (by decide) (by decide) (by decide) ?_
    refine Go.run (pc' := 157) [.aload_n 0, .iload_n 2, .iconst 3, .irem, .iconst 1, .iload_n 3, .bipush (6), .irem, .iadd, .iload_n 3, .bipush (8), .idiv, .iconst 4, .irem] (ls' := [some (.ref a0), some (.int x1), some (.int x2), some (.int (x2 / (32 : Int32)))]) (st' := [.int (((x2 / (32 : Int32)) / (8 : Int32)) - ((x2 / (32 : Int32)) / (8 : Int32)) / (4 : Int32) * (4 : Int32)), .int ((1 : Int32) + ((x2 / (32 : Int32)) - (x2 / (32 : Int32)) / (6 : Int32) * (6 : Int32))), .int (x2 - x2 / (3 : Int32) * (3 : Int32)), .ref a0]) (by decide +kernel) rfl rfl ?_
    obtain ⟨v14, e15, e⟩ := bd_inv e
    refine Go.callH (M2 := m_Q_dealer) (as := [.ref a0, .int (x2 - x2 / (3 : Int32) * (3 : Int32)), .int ((1 : Int32) + ((x2 / (32 : Int32)) - (x2 / (32 : Int32)) / (6 : Int32) * (6 : Int32))), .int (((x2 / (32 : Int32)) / (8 : Int32)) - ((x2 / (32 : Int32)) / (8 : Int32)) / (4 : Int32) * (4 : Int32))]) (rest := []) (v := some (.long v14.1)) (h1 := v14.2) (x_Q_dealer hf hI k0 e15) wh_Q_140 (by decide +kernel) rfl rfl ⟨⟨Nat.le_of_ble_eq_true rfl, Nat.le_of_ble_eq_true rfl⟩, ⟨Nat.le_of_ble_eq_true rfl, Nat.le_of_ble_eq_true rfl⟩⟩ (Nat.le_of_ble_eq_true rfl) ?_
    show Go l D ad aC (rmk m_Q_act) _ m_Q_act 160 [some (.ref a0), some (.int x1), some (.int x2), some (.int (x2 / (32 : Int32)))] [.long v14.1] v14.2 1 6
    obtain rfl := Option.some.inj e
    exact Go.lret rfl (by decide) (by decide) (by decide +kernel)
  replace e := ite_f c13 e
  rcases Decidable.em ((x1 - x1 / (24 : Int32) * (24 : Int32)) = 5) with c16 | c16
  · replace e := ite_t c16 e
    refine Go.tsIn (dflt := 221) (lo := 0) (hi := 21) (offs := #[103, 114, 114, 114, 132, 132, 132, 152, 152, 152, 152, 152, 152, 170, 179, 179, 179, 192, 192, 203, 216, 216]) (len := 103) (off := 132) (tgt := 141) 5 (by decide +kernel) (by rw [c16]; decide) (by decide) (by decide) (by decide) (by decide) ?_
    refine Go.run (pc' := 157) [.aload_n 0, .iload_n 2, .iconst 3, .irem, .iconst 1, .iload_n 3, .bipush (6), .irem, .iadd, .iload_n 3, .bipush (8), .idiv, .iconst 4, .irem] (ls' := [some (.ref a0), some (.int x1), some (.int x2), some (.int (x2 / (32 : Int32)))]) (st' := [.int (((x2 / (32 : Int32)) / (8 : Int32)) - ((x2 / (32 : Int32)) / (8 : Int32)) / (4 : Int32) * (4 : Int32)), .int ((1 : Int32) + ((x2 / (32 : Int32)) - (x2 / (32 : Int32)) / (6 : Int32) * (6 : Int32))), .int (x2 - x2 / (3 : Int32) * (3 : Int32)), .ref a0]) (by decide +kernel) rfl rfl ?_
    obtain ⟨v17, e18, e⟩ := bd_inv e
    refine Go.callH (M2 := m_Q_dealer) (as := [.ref a0, .int (x2 - x2 / (3 : Int32) * (3 : Int32)), .int ((1 : Int32) + ((x2 / (32 : Int32)) - (x2 / (32 : Int32)) / (6 : Int32) * (6 : Int32))), .int (((x2 / (32 : Int32)) / (8 : Int32)) - ((x2 / (32 : Int32)) / (8 : Int32)) / (4 : Int32) * (4 : Int32))]) (rest := []) (v := some (.long v17.1)) (h1 := v17.2) (x_Q_dealer hf hI k0 e18) wh_Q_140 (by decide +kernel) rfl rfl ⟨⟨Nat.le_of_ble_eq_true rfl, Nat.le_of_ble_eq_true rfl⟩, ⟨Nat.le_of_ble_eq_true rfl, Nat.le_of_ble_eq_true rfl⟩⟩ (Nat.le_of_ble_eq_true rfl) ?_
    show Go l D ad aC (rmk m_Q_act) _ m_Q_act 160 [some (.ref a0), some (.int x1), some (.int x2), some (.int (x2 / (32 : Int32)))] [.long v17.1] v17.2 1 6
    obtain rfl := Option.some.inj e
    exact Go.lret rfl (by decide) (by decide) (by decide +kernel)
  replace e := ite_f c16 e
  rcases Decidable.em ((x1 - x1 / (24 : Int32) * (24 : Int32)) = 6) with c19 | c19
  · replace e := ite_t c19 e
    refine Go.tsIn (dflt := 221) (lo := 0) (hi := 21) (offs := #[103, 114, 114, 114, 132, 132, 132, 152, 152, 152, 152, 152, 152, 170, 179, 179, 179, 192, 192, 203, 216, 216]) (len := 103) (off := 132) (tgt := 141) 6 (by decide +kernel) (by rw [c19]; decide) (by decide) (by decide) (by decide) (by decide) ?_
    refine Go.run (pc' := 157) [.aload_n 0, .iload_n 2, .iconst 3, .irem, .iconst 1, .iload_n 3, .bipush (6), .irem, .iadd, .iload_n 3, .bipush (8), .idiv, .iconst 4, .irem] (ls' := [some (.ref a0), some (.int x1), some (.int x2), some (.int (x2 / (32 : Int32)))]) (st' := [.int (((x2 / (32 : Int32)) / (8 : Int32)) - ((x2 / (32 : Int32)) / (8 : Int32)) / (4 : Int32) * (4 : Int32)), .int ((1 : Int32) + ((x2 / (32 : Int32)) - (x2 / (32 : Int32)) / (6 : Int32) * (6 : Int32))), .int (x2 - x2 / (3 : Int32) * (3 : Int32)), .ref a0]) (by decide +kernel) rfl rfl ?_
    obtain ⟨v20, e21, e⟩ := bd_inv e
    refine Go.callH (M2 := m_Q_dealer) (as := [.ref a0, .int (x2 - x2 / (3 : Int32) * (3 : Int32)), .int ((1 : Int32) + ((x2 / (32 : Int32)) - (x2 / (32 : Int32)) / (6 : Int32) * (6 : Int32))), .int (((x2 / (32 : Int32)) / (8 : Int32)) - ((x2 / (32 : Int32)) / (8 : Int32)) / (4 : Int32) * (4 : Int32))]) (rest := []) (v := some (.long v20.1)) (h1 := v20.2) (x_Q_dealer hf hI k0 e21) wh_Q_140 (by decide +kernel) rfl rfl ⟨⟨Nat.le_of_ble_eq_true rfl, Nat.le_of_ble_eq_true rfl⟩, ⟨Nat.le_of_ble_eq_true rfl, Nat.le_of_ble_eq_true rfl⟩⟩ (Nat.le_of_ble_eq_true rfl) ?_
    show Go l D ad aC (rmk m_Q_act) _ m_Q_act 160 [some (.ref a0), some (.int x1), some (.int x2), some (.int (x2 / (32 : Int32)))] [.long v20.1] v20.2 1 6
    obtain rfl := Option.some.inj e
    exact Go.lret rfl (by decide) (by decide) (by decide +kernel)
  replace e := ite_f c19 e
  rcases Decidable.em ((x1 - x1 / (24 : Int32) * (24 : Int32)) = 7) with c22 | c22
  · replace e := ite_t c22 e
    refine Go.tsIn (dflt := 221) (lo := 0) (hi := 21) (offs := #[103, 114, 114, 114, 132, 132, 132, 152, 152, 152, 152, 152, 152, 170, 179, 179, 179, 192, 192, 203, 216, 216]) (len := 103) (off := 152) (tgt := 161) 7 (by decide +kernel) (by rw [c22]; decide) (by decide) (by decide) (by decide) (by decide) ?_
    refine Go.run (pc' := 175) [.aload_n 0, .iload_n 2, .bipush (6), .irem, .iload_n 3, .iconst 3, .irem, .iload_n 3, .iconst 4, .idiv, .bipush (24), .irem] (ls' := [some (.ref a0), some (.int x1), some (.int x2), some (.int (x2 / (32 : Int32)))]) (st' := [.int (((x2 / (32 : Int32)) / (4 : Int32)) - ((x2 / (32 : Int32)) / (4 : Int32)) / (24 : Int32) * (24 : Int32)), .int ((x2 / (32 : Int32)) - (x2 / (32 : Int32)) / (3 : Int32) * (3 : Int32)), .int (x2 - x2 / (6 : Int32) * (6 : Int32)), .ref a0]) (by decide +kernel) rfl rfl ?_
    obtain ⟨v23, e24, e⟩ := bd_inv e
    refine Go.callH (M2 := m_Q_place) (as := [.ref a0, .int (x2 - x2 / (6 : Int32) * (6 : Int32)), .int ((x2 / (32 : Int32)) - (x2 / (32 : Int32)) / (3 : Int32) * (3 : Int32)), .int (((x2 / (32 : Int32)) / (4 : Int32)) - ((x2 / (32 : Int32)) / (4 : Int32)) / (24 : Int32) * (24 : Int32))]) (rest := []) (v := some (.long v23.1)) (h1 := v23.2) (x_Q_place hf hI k0 e24) wh_Q_142 (by decide +kernel) rfl rfl ⟨⟨Nat.le_of_ble_eq_true rfl, Nat.le_of_ble_eq_true rfl⟩, ⟨Nat.le_of_ble_eq_true rfl, Nat.le_of_ble_eq_true rfl⟩⟩ (Nat.le_of_ble_eq_true rfl) ?_
    show Go l D ad aC (rmk m_Q_act) _ m_Q_act 178 [some (.ref a0), some (.int x1), some (.int x2), some (.int (x2 / (32 : Int32)))] [.long v23.1] v23.2 1 6
    obtain rfl := Option.some.inj e
    exact Go.lret rfl (by decide) (by decide) (by decide +kernel)
  replace e := ite_f c22 e
  rcases Decidable.em ((x1 - x1 / (24 : Int32) * (24 : Int32)) = 8) with c25 | c25
  · replace e := ite_t c25 e
    refine Go.tsIn (dflt := 221) (lo := 0) (hi := 21) (offs := #[103, 114, 114, 114, 132, 132, 132, 152, 152, 152, 152, 152, 152, 170, 179, 179, 179, 192, 192, 203, 216, 216]) (len := 103) (off := 152) (tgt := 161) 8 (by decide +kernel) (by rw [c25]; decide) (by decide) (by decide) (by decide) (by decide) ?_
    refine Go.run (pc' := 175) [.aload_n 0, .iload_n 2, .bipush (6), .irem, .iload_n 3, .iconst 3, .irem, .iload_n 3, .iconst 4, .idiv, .bipush (24), .irem] (ls' := [some (.ref a0), some (.int x1), some (.int x2), some (.int (x2 / (32 : Int32)))]) (st' := [.int (((x2 / (32 : Int32)) / (4 : Int32)) - ((x2 / (32 : Int32)) / (4 : Int32)) / (24 : Int32) * (24 : Int32)), .int ((x2 / (32 : Int32)) - (x2 / (32 : Int32)) / (3 : Int32) * (3 : Int32)), .int (x2 - x2 / (6 : Int32) * (6 : Int32)), .ref a0]) (by decide +kernel) rfl rfl ?_
    obtain ⟨v26, e27, e⟩ := bd_inv e
    refine Go.callH (M2 := m_Q_place) (as := [.ref a0, .int (x2 - x2 / (6 : Int32) * (6 : Int32)), .int ((x2 / (32 : Int32)) - (x2 / (32 : Int32)) / (3 : Int32) * (3 : Int32)), .int (((x2 / (32 : Int32)) / (4 : Int32)) - ((x2 / (32 : Int32)) / (4 : Int32)) / (24 : Int32) * (24 : Int32))]) (rest := []) (v := some (.long v26.1)) (h1 := v26.2) (x_Q_place hf hI k0 e27) wh_Q_142 (by decide +kernel) rfl rfl ⟨⟨Nat.le_of_ble_eq_true rfl, Nat.le_of_ble_eq_true rfl⟩, ⟨Nat.le_of_ble_eq_true rfl, Nat.le_of_ble_eq_true rfl⟩⟩ (Nat.le_of_ble_eq_true rfl) ?_
    show Go l D ad aC (rmk m_Q_act) _ m_Q_act 178 [some (.ref a0), some (.int x1), some (.int x2), some (.int (x2 / (32 : Int32)))] [.long v26.1] v26.2 1 6
    obtain rfl := Option.some.inj e
    exact Go.lret rfl (by decide) (by decide) (by decide +kernel)
  replace e := ite_f c25 e
  rcases Decidable.em ((x1 - x1 / (24 : Int32) * (24 : Int32)) = 9) with c28 | c28
  · replace e := ite_t c28 e
    refine Go.tsIn (dflt := 221) (lo := 0) (hi := 21) (offs := #[103, 114, 114, 114, 132, 132, 132, 152, 152, 152, 152, 152, 152, 170, 179, 179, 179, 192, 192, 203, 216, 216]) (len := 103) (off := 152) (tgt := 161) 9 (by decide +kernel) (by rw [c28]; decide) (by decide) (by decide) (by decide) (by decide) ?_
    refine Go.run (pc' := 175) [.aload_n 0, .iload_n 2, .bipush (6), .irem, .iload_n 3, .iconst 3, .irem, .iload_n 3, .iconst 4, .idiv, .bipush (24), .irem] (ls' := [some (.ref a0), some (.int x1), some (.int x2), some (.int (x2 / (32 : Int32)))]) (st' := [.int (((x2 / (32 : Int32)) / (4 : Int32)) - ((x2 / (32 : Int32)) / (4 : Int32)) / (24 : Int32) * (24 : Int32)), .int ((x2 / (32 : Int32)) - (x2 / (32 : Int32)) / (3 : Int32) * (3 : Int32)), .int (x2 - x2 / (6 : Int32) * (6 : Int32)), .ref a0]) (by decide +kernel) rfl rfl ?_
    obtain ⟨v29, e30, e⟩ := bd_inv e
    refine Go.callH (M2 := m_Q_place) (as := [.ref a0, .int (x2 - x2 / (6 : Int32) * (6 : Int32)), .int ((x2 / (32 : Int32)) - (x2 / (32 : Int32)) / (3 : Int32) * (3 : Int32)), .int (((x2 / (32 : Int32)) / (4 : Int32)) - ((x2 / (32 : Int32)) / (4 : Int32)) / (24 : Int32) * (24 : Int32))]) (rest := []) (v := some (.long v29.1)) (h1 := v29.2) (x_Q_place hf hI k0 e30) wh_Q_142 (by decide +kernel) rfl rfl ⟨⟨Nat.le_of_ble_eq_true rfl, Nat.le_of_ble_eq_true rfl⟩, ⟨Nat.le_of_ble_eq_true rfl, Nat.le_of_ble_eq_true rfl⟩⟩ (Nat.le_of_ble_eq_true rfl) ?_
    show Go l D ad aC (rmk m_Q_act) _ m_Q_act 178 [some (.ref a0), some (.int x1), some (.int x2), some (.int (x2 / (32 : Int32)))] [.long v29.1] v29.2 1 6
    obtain rfl := Option.some.inj e
    exact Go.lret rfl (by decide) (by decide) (by decide +kernel)
  replace e := ite_f c28 e
  rcases Decidable.em ((x1 - x1 / (24 : Int32) * (24 : Int32)) = 10) with c31 | c31
  · replace e := ite_t c31 e
    refine Go.tsIn (dflt := 221) (lo := 0) (hi := 21) (offs := #[103, 114, 114, 114, 132, 132, 132, 152, 152, 152, 152, 152, 152, 170, 179, 179, 179, 192, 192, 203, 216, 216]) (len := 103) (off := 152) (tgt := 161) 10 (by decide +kernel) (by rw [c31]; decide) (by decide) (by decide) (by decide) (by decide) ?_
    refine Go.run (pc' := 175) [.aload_n 0, .iload_n 2, .bipush (6), .irem, .iload_n 3, .iconst 3, .irem, .iload_n 3, .iconst 4, .idiv, .bipush (24), .irem] (ls' := [some (.ref a0), some (.int x1), some (.int x2), some (.int (x2 / (32 : Int32)))]) (st' := [.int (((x2 / (32 : Int32)) / (4 : Int32)) - ((x2 / (32 : Int32)) / (4 : Int32)) / (24 : Int32) * (24 : Int32)), .int ((x2 / (32 : Int32)) - (x2 / (32 : Int32)) / (3 : Int32) * (3 : Int32)), .int (x2 - x2 / (6 : Int32) * (6 : Int32)), .ref a0]) (by decide +kernel) rfl rfl ?_
    obtain ⟨v32, e33, e⟩ := bd_inv e
    refine Go.callH (M2 := m_Q_place) (as := [.ref a0, .int (x2 - x2 / (6 : Int32) * (6 : Int32)), .int ((x2 / (32 : Int32)) - (x2 / (32 : Int32)) / (3 : Int32) * (3 : Int32)), .int (((x2 / (32 : Int32)) / (4 : Int32)) - ((x2 / (32 : Int32)) / (4 : Int32)) / (24 : Int32) * (24 : Int32))]) (rest := []) (v := some (.long v32.1)) (h1 := v32.2) (x_Q_place hf hI k0 e33) wh_Q_142 (by decide +kernel) rfl rfl ⟨⟨Nat.le_of_ble_eq_true rfl, Nat.le_of_ble_eq_true rfl⟩, ⟨Nat.le_of_ble_eq_true rfl, Nat.le_of_ble_eq_true rfl⟩⟩ (Nat.le_of_ble_eq_true rfl) ?_
    show Go l D ad aC (rmk m_Q_act) _ m_Q_act 178 [some (.ref a0), some (.int x1), some (.int x2), some (.int (x2 / (32 : Int32)))] [.long v32.1] v32.2 1 6
    obtain rfl := Option.some.inj e
    exact Go.lret rfl (by decide) (by decide) (by decide +kernel)
  replace e := ite_f c31 e
  rcases Decidable.em ((x1 - x1 / (24 : Int32) * (24 : Int32)) = 11) with c34 | c34
  · replace e := ite_t c34 e
    refine Go.tsIn (dflt := 221) (lo := 0) (hi := 21) (offs := #[103, 114, 114, 114, 132, 132, 132, 152, 152, 152, 152, 152, 152, 170, 179, 179, 179, 192, 192, 203, 216, 216]) (len := 103) (off := 152) (tgt := 161) 11 (by decide +kernel) (by rw [c34]; decide) (by decide) (by decide) (by decide) (by decide) ?_
    refine Go.run (pc' := 175) [.aload_n 0, .iload_n 2, .bipush (6), .irem, .iload_n 3, .iconst 3, .irem, .iload_n 3, .iconst 4, .idiv, .bipush (24), .irem] (ls' := [some (.ref a0), some (.int x1), some (.int x2), some (.int (x2 / (32 : Int32)))]) (st' := [.int (((x2 / (32 : Int32)) / (4 : Int32)) - ((x2 / (32 : Int32)) / (4 : Int32)) / (24 : Int32) * (24 : Int32)), .int ((x2 / (32 : Int32)) - (x2 / (32 : Int32)) / (3 : Int32) * (3 : Int32)), .int (x2 - x2 / (6 : Int32) * (6 : Int32)), .ref a0]) (by decide +kernel) rfl rfl ?_
    obtain ⟨v35, e36, e⟩ := bd_inv e
    refine Go.callH (M2 := m_Q_place) (as := [.ref a0, .int (x2 - x2 / (6 : Int32) * (6 : Int32)), .int ((x2 / (32 : Int32)) - (x2 / (32 : Int32)) / (3 : Int32) * (3 : Int32)), .int (((x2 / (32 : Int32)) / (4 : Int32)) - ((x2 / (32 : Int32)) / (4 : Int32)) / (24 : Int32) * (24 : Int32))]) (rest := []) (v := some (.long v35.1)) (h1 := v35.2) (x_Q_place hf hI k0 e36) wh_Q_142 (by decide +kernel) rfl rfl ⟨⟨Nat.le_of_ble_eq_true rfl, Nat.le_of_ble_eq_true rfl⟩, ⟨Nat.le_of_ble_eq_true rfl, Nat.le_of_ble_eq_true rfl⟩⟩ (Nat.le_of_ble_eq_true rfl) ?_
    show Go l D ad aC (rmk m_Q_act) _ m_Q_act 178 [some (.ref a0), some (.int x1), some (.int x2), some (.int (x2 / (32 : Int32)))] [.long v35.1] v35.2 1 6
    obtain rfl := Option.some.inj e
    exact Go.lret rfl (by decide) (by decide) (by decide +kernel)
  replace e := ite_f c34 e
  rcases Decidable.em ((x1 - x1 / (24 : Int32) * (24 : Int32)) = 12) with c37 | c37
  · replace e := ite_t c37 e
    refine Go.tsIn (dflt := 221) (lo := 0) (hi := 21) (offs := #[103, 114, 114, 114, 132, 132, 132, 152, 152, 152, 152, 152, 152, 170, 179, 179, 179, 192, 192, 203, 216, 216]) (len := 103) (off := 152) (tgt := 161) 12 (by decide +kernel) (by rw [c37]; decide) (by decide) (by decide) (by decide) (by decide) ?_
    refine Go.run (pc' := 175) [.aload_n 0, .iload_n 2, .bipush (6), .irem, .iload_n 3, .iconst 3, .irem, .iload_n 3, .iconst 4, .idiv, .bipush (24), .irem] (ls' := [some (.ref a0), some (.int x1), some (.int x2), some (.int (x2 / (32 : Int32)))]) (st' := [.int (((x2 / (32 : Int32)) / (4 : Int32)) - ((x2 / (32 : Int32)) / (4 : Int32)) / (24 : Int32) * (24 : Int32)), .int ((x2 / (32 : Int32)) - (x2 / (32 : Int32)) / (3 : Int32) * (3 : Int32)), .int (x2 - x2 / (6 : Int32) * (6 : Int32)), .ref a0]) (by decide +kernel) rfl rfl ?_
    obtain ⟨v38, e39, e⟩ := bd_inv e
    refine Go.callH (M2 := m_Q_place) (as := [.ref a0, .int (x2 - x2 / (6 : Int32) * (6 : Int32)), .int ((x2 / (32 : Int32)) - (x2 / (32 : Int32)) / (3 : Int32) * (3 : Int32)), .int (((x2 / (32 : Int32)) / (4 : Int32)) - ((x2 / (32 : Int32)) / (4 : Int32)) / (24 : Int32) * (24 : Int32))]) (rest := []) (v := some (.long v38.1)) (h1 := v38.2) (x_Q_place hf hI k0 e39) wh_Q_142 (by decide +kernel) rfl rfl ⟨⟨Nat.le_of_ble_eq_true rfl, Nat.le_of_ble_eq_true rfl⟩, ⟨Nat.le_of_ble_eq_true rfl, Nat.le_of_ble_eq_true rfl⟩⟩ (Nat.le_of_ble_eq_true rfl) ?_
    show Go l D ad aC (rmk m_Q_act) _ m_Q_act 178 [some (.ref a0), some (.int x1), some (.int x2), some (.int (x2 / (32 : Int32)))] [.long v38.1] v38.2 1 6
    obtain rfl := Option.some.inj e
    exact Go.lret rfl (by decide) (by decide) (by decide +kernel)
  replace e := ite_f c37 e
  rcases Decidable.em ((x1 - x1 / (24 : Int32) * (24 : Int32)) = 13) with c40 | c40
  · replace e := ite_t c40 e
    refine Go.tsIn (dflt := 221) (lo := 0) (hi := 21) (offs := #[103, 114, 114, 114, 132, 132, 132, 152, 152, 152, 152, 152, 152, 170, 179, 179, 179, 192, 192, 203, 216, 216]) (len := 103) (off := 170) (tgt := 179) 13 (by decide +kernel) (by rw [c40]; decide) (by decide) (by decide) (by decide) (by decide) ?_
    refine Go.run (pc' := 184) [.aload_n 0, .iload_n 2, .bipush (6), .irem] (ls' := [some (.ref a0), some (.int x1), some (.int x2), some (.int (x2 / (32 : Int32)))]) (st' := [.int (x2 - x2 / (6 : Int32) * (6 : Int32)), .ref a0]) (by decide +kernel) rfl rfl ?_
    obtain ⟨v41, e42, e⟩ := bd_inv e
    refine Go.callH (M2 := m_Q_leave) (as := [.ref a0, .int (x2 - x2 / (6 : Int32) * (6 : Int32))]) (rest := []) (v := some (.long v41.1)) (h1 := v41.2) (x_Q_leave hf hI k0 e42) wh_Q_144 (by decide +kernel) rfl rfl ⟨⟨Nat.le_of_ble_eq_true rfl, Nat.le_of_ble_eq_true rfl⟩, ⟨Nat.le_of_ble_eq_true rfl, Nat.le_of_ble_eq_true rfl⟩⟩ (Nat.le_of_ble_eq_true rfl) ?_
    show Go l D ad aC (rmk m_Q_act) _ m_Q_act 187 [some (.ref a0), some (.int x1), some (.int x2), some (.int (x2 / (32 : Int32)))] [.long v41.1] v41.2 1 6
    obtain rfl := Option.some.inj e
    exact Go.lret rfl (by decide) (by decide) (by decide +kernel)
  replace e := ite_f c40 e
  rcases Decidable.em ((x1 - x1 / (24 : Int32) * (24 : Int32)) = 14) with c43 | c43
  · replace e := ite_t c43 e
    refine Go.tsIn (dflt := 221) (lo := 0) (hi := 21) (offs := #[103, 114, 114, 114, 132, 132, 132, 152, 152, 152, 152, 152, 152, 170, 179, 179, 179, 192, 192, 203, 216, 216]) (len := 103) (off := 179) (tgt := 188) 14 (by decide +kernel) (by rw [c43]; decide) (by decide) (by decide) (by decide) (by decide) ?_
    refine Go.run (pc' := 197) [.aload_n 0, .iload_n 2, .bipush (6), .irem, .iload_n 3, .bipush (6), .irem] (ls' := [some (.ref a0), some (.int x1), some (.int x2), some (.int (x2 / (32 : Int32)))]) (st' := [.int ((x2 / (32 : Int32)) - (x2 / (32 : Int32)) / (6 : Int32) * (6 : Int32)), .int (x2 - x2 / (6 : Int32) * (6 : Int32)), .ref a0]) (by decide +kernel) rfl rfl ?_
    obtain ⟨v44, e45, e⟩ := bd_inv e
    refine Go.callH (M2 := m_Q_swap) (as := [.ref a0, .int (x2 - x2 / (6 : Int32) * (6 : Int32)), .int ((x2 / (32 : Int32)) - (x2 / (32 : Int32)) / (6 : Int32) * (6 : Int32))]) (rest := []) (v := some (.long v44.1)) (h1 := v44.2) (x_Q_swap hf hI k0 e45) wh_Q_146 (by decide +kernel) rfl rfl ⟨⟨Nat.le_of_ble_eq_true rfl, Nat.le_of_ble_eq_true rfl⟩, ⟨Nat.le_of_ble_eq_true rfl, Nat.le_of_ble_eq_true rfl⟩⟩ (Nat.le_of_ble_eq_true rfl) ?_
    show Go l D ad aC (rmk m_Q_act) _ m_Q_act 200 [some (.ref a0), some (.int x1), some (.int x2), some (.int (x2 / (32 : Int32)))] [.long v44.1] v44.2 1 6
    obtain rfl := Option.some.inj e
    exact Go.lret rfl (by decide) (by decide) (by decide +kernel)
  replace e := ite_f c43 e
  rcases Decidable.em ((x1 - x1 / (24 : Int32) * (24 : Int32)) = 15) with c46 | c46
  · replace e := ite_t c46 e
    refine Go.tsIn (dflt := 221) (lo := 0) (hi := 21) (offs := #[103, 114, 114, 114, 132, 132, 132, 152, 152, 152, 152, 152, 152, 170, 179, 179, 179, 192, 192, 203, 216, 216]) (len := 103) (off := 179) (tgt := 188) 15 (by decide +kernel) (by rw [c46]; decide) (by decide) (by decide) (by decide) (by decide) ?_
    refine Go.run (pc' := 197) [.aload_n 0, .iload_n 2, .bipush (6), .irem, .iload_n 3, .bipush (6), .irem] (ls' := [some (.ref a0), some (.int x1), some (.int x2), some (.int (x2 / (32 : Int32)))]) (st' := [.int ((x2 / (32 : Int32)) - (x2 / (32 : Int32)) / (6 : Int32) * (6 : Int32)), .int (x2 - x2 / (6 : Int32) * (6 : Int32)), .ref a0]) (by decide +kernel) rfl rfl ?_
    obtain ⟨v47, e48, e⟩ := bd_inv e
    refine Go.callH (M2 := m_Q_swap) (as := [.ref a0, .int (x2 - x2 / (6 : Int32) * (6 : Int32)), .int ((x2 / (32 : Int32)) - (x2 / (32 : Int32)) / (6 : Int32) * (6 : Int32))]) (rest := []) (v := some (.long v47.1)) (h1 := v47.2) (x_Q_swap hf hI k0 e48) wh_Q_146 (by decide +kernel) rfl rfl ⟨⟨Nat.le_of_ble_eq_true rfl, Nat.le_of_ble_eq_true rfl⟩, ⟨Nat.le_of_ble_eq_true rfl, Nat.le_of_ble_eq_true rfl⟩⟩ (Nat.le_of_ble_eq_true rfl) ?_
    show Go l D ad aC (rmk m_Q_act) _ m_Q_act 200 [some (.ref a0), some (.int x1), some (.int x2), some (.int (x2 / (32 : Int32)))] [.long v47.1] v47.2 1 6
    obtain rfl := Option.some.inj e
    exact Go.lret rfl (by decide) (by decide) (by decide +kernel)
  replace e := ite_f c46 e
  rcases Decidable.em ((x1 - x1 / (24 : Int32) * (24 : Int32)) = 16) with c49 | c49
  · replace e := ite_t c49 e
    refine Go.tsIn (dflt := 221) (lo := 0) (hi := 21) (offs := #[103, 114, 114, 114, 132, 132, 132, 152, 152, 152, 152, 152, 152, 170, 179, 179, 179, 192, 192, 203, 216, 216]) (len := 103) (off := 179) (tgt := 188) 16 (by decide +kernel) (by rw [c49]; decide) (by decide) (by decide) (by decide) (by decide) ?_
    refine Go.run (pc' := 197) [.aload_n 0, .iload_n 2, .bipush (6), .irem, .iload_n 3, .bipush (6), .irem] (ls' := [some (.ref a0), some (.int x1), some (.int x2), some (.int (x2 / (32 : Int32)))]) (st' := [.int ((x2 / (32 : Int32)) - (x2 / (32 : Int32)) / (6 : Int32) * (6 : Int32)), .int (x2 - x2 / (6 : Int32) * (6 : Int32)), .ref a0]) (by decide +kernel) rfl rfl ?_
    obtain ⟨v50, e51, e⟩ := bd_inv e
    refine Go.callH (M2 := m_Q_swap) (as := [.ref a0, .int (x2 - x2 / (6 : Int32) * (6 : Int32)), .int ((x2 / (32 : Int32)) - (x2 / (32 : Int32)) / (6 : Int32) * (6 : Int32))]) (rest := []) (v := some (.long v50.1)) (h1 := v50.2) (x_Q_swap hf hI k0 e51) wh_Q_146 (by decide +kernel) rfl rfl ⟨⟨Nat.le_of_ble_eq_true rfl, Nat.le_of_ble_eq_true rfl⟩, ⟨Nat.le_of_ble_eq_true rfl, Nat.le_of_ble_eq_true rfl⟩⟩ (Nat.le_of_ble_eq_true rfl) ?_
    show Go l D ad aC (rmk m_Q_act) _ m_Q_act 200 [some (.ref a0), some (.int x1), some (.int x2), some (.int (x2 / (32 : Int32)))] [.long v50.1] v50.2 1 6
    obtain rfl := Option.some.inj e
    exact Go.lret rfl (by decide) (by decide) (by decide +kernel)
  replace e := ite_f c49 e
  rcases Decidable.em ((x1 - x1 / (24 : Int32) * (24 : Int32)) = 17) with c52 | c52
  · replace e := ite_t c52 e
    refine Go.tsIn (dflt := 221) (lo := 0) (hi := 21) (offs := #[103, 114, 114, 114, 132, 132, 132, 152, 152, 152, 152, 152, 152, 170, 179, 179, 179, 192, 192, 203, 216, 216]) (len := 103) (off := 192) (tgt := 201) 17 (by decide +kernel) (by rw [c52]; decide) (by decide) (by decide) (by decide) (by decide) ?_
    refine Go.run (pc' := 208) [.aload_n 0, .iconst 1, .iload_n 2, .bipush (7), .irem, .iadd] (ls' := [some (.ref a0), some (.int x1), some (.int x2), some (.int (x2 / (32 : Int32)))]) (st' := [.int ((1 : Int32) + (x2 - x2 / (7 : Int32) * (7 : Int32))), .ref a0]) (by decide +kernel) rfl rfl ?_
    obtain ⟨v53, e54, e⟩ := bd_inv e
    refine Go.callH (M2 := m_Q_days) (as := [.ref a0, .int ((1 : Int32) + (x2 - x2 / (7 : Int32) * (7 : Int32)))]) (rest := []) (v := some (.long v53.1)) (h1 := v53.2) (x_Q_days hf hI k0 e54) wh_Q_148 (by decide +kernel) rfl rfl ⟨⟨Nat.le_of_ble_eq_true rfl, Nat.le_of_ble_eq_true rfl⟩, ⟨Nat.le_of_ble_eq_true rfl, Nat.le_of_ble_eq_true rfl⟩⟩ (Nat.le_of_ble_eq_true rfl) ?_
    show Go l D ad aC (rmk m_Q_act) _ m_Q_act 211 [some (.ref a0), some (.int x1), some (.int x2), some (.int (x2 / (32 : Int32)))] [.long v53.1] v53.2 1 6
    obtain rfl := Option.some.inj e
    exact Go.lret rfl (by decide) (by decide) (by decide +kernel)
  replace e := ite_f c52 e
  rcases Decidable.em ((x1 - x1 / (24 : Int32) * (24 : Int32)) = 18) with c55 | c55
  · replace e := ite_t c55 e
    refine Go.tsIn (dflt := 221) (lo := 0) (hi := 21) (offs := #[103, 114, 114, 114, 132, 132, 132, 152, 152, 152, 152, 152, 152, 170, 179, 179, 179, 192, 192, 203, 216, 216]) (len := 103) (off := 192) (tgt := 201) 18 (by decide +kernel) (by rw [c55]; decide) (by decide) (by decide) (by decide) (by decide) ?_
    refine Go.run (pc' := 208) [.aload_n 0, .iconst 1, .iload_n 2, .bipush (7), .irem, .iadd] (ls' := [some (.ref a0), some (.int x1), some (.int x2), some (.int (x2 / (32 : Int32)))]) (st' := [.int ((1 : Int32) + (x2 - x2 / (7 : Int32) * (7 : Int32))), .ref a0]) (by decide +kernel) rfl rfl ?_
    obtain ⟨v56, e57, e⟩ := bd_inv e
    refine Go.callH (M2 := m_Q_days) (as := [.ref a0, .int ((1 : Int32) + (x2 - x2 / (7 : Int32) * (7 : Int32)))]) (rest := []) (v := some (.long v56.1)) (h1 := v56.2) (x_Q_days hf hI k0 e57) wh_Q_148 (by decide +kernel) rfl rfl ⟨⟨Nat.le_of_ble_eq_true rfl, Nat.le_of_ble_eq_true rfl⟩, ⟨Nat.le_of_ble_eq_true rfl, Nat.le_of_ble_eq_true rfl⟩⟩ (Nat.le_of_ble_eq_true rfl) ?_
    show Go l D ad aC (rmk m_Q_act) _ m_Q_act 211 [some (.ref a0), some (.int x1), some (.int x2), some (.int (x2 / (32 : Int32)))] [.long v56.1] v56.2 1 6
    obtain rfl := Option.some.inj e
    exact Go.lret rfl (by decide) (by decide) (by decide +kernel)
  replace e := ite_f c55 e
  rcases Decidable.em ((x1 - x1 / (24 : Int32) * (24 : Int32)) = 19) with c58 | c58
  · replace e := ite_t c58 e
    refine Go.tsIn (dflt := 221) (lo := 0) (hi := 21) (offs := #[103, 114, 114, 114, 132, 132, 132, 152, 152, 152, 152, 152, 152, 170, 179, 179, 179, 192, 192, 203, 216, 216]) (len := 103) (off := 203) (tgt := 212) 19 (by decide +kernel) (by rw [c58]; decide) (by decide) (by decide) (by decide) (by decide) ?_
    refine Go.run (pc' := 221) [.aload_n 0, .iload_n 2, .bipush (6), .irem, .iload_n 3, .bipush (10), .irem] (ls' := [some (.ref a0), some (.int x1), some (.int x2), some (.int (x2 / (32 : Int32)))]) (st' := [.int ((x2 / (32 : Int32)) - (x2 / (32 : Int32)) / (10 : Int32) * (10 : Int32)), .int (x2 - x2 / (6 : Int32) * (6 : Int32)), .ref a0]) (by decide +kernel) rfl rfl ?_
    obtain ⟨v59, e60, e⟩ := bd_inv e
    refine Go.callH (M2 := m_Q_set) (as := [.ref a0, .int (x2 - x2 / (6 : Int32) * (6 : Int32)), .int ((x2 / (32 : Int32)) - (x2 / (32 : Int32)) / (10 : Int32) * (10 : Int32))]) (rest := []) (v := some (.long v59.1)) (h1 := v59.2) (x_Q_set hf hI k0 e60) wh_Q_150 (by decide +kernel) rfl rfl ⟨⟨Nat.le_of_ble_eq_true rfl, Nat.le_of_ble_eq_true rfl⟩, ⟨Nat.le_of_ble_eq_true rfl, Nat.le_of_ble_eq_true rfl⟩⟩ (Nat.le_of_ble_eq_true rfl) ?_
    show Go l D ad aC (rmk m_Q_act) _ m_Q_act 224 [some (.ref a0), some (.int x1), some (.int x2), some (.int (x2 / (32 : Int32)))] [.long v59.1] v59.2 1 6
    obtain rfl := Option.some.inj e
    exact Go.lret rfl (by decide) (by decide) (by decide +kernel)
  replace e := ite_f c58 e
  rcases Decidable.em ((x1 - x1 / (24 : Int32) * (24 : Int32)) = 20) with c61 | c61
  · replace e := ite_t c61 e
    refine Go.tsIn (dflt := 221) (lo := 0) (hi := 21) (offs := #[103, 114, 114, 114, 132, 132, 132, 152, 152, 152, 152, 152, 152, 170, 179, 179, 179, 192, 192, 203, 216, 216]) (len := 103) (off := 216) (tgt := 225) 20 (by decide +kernel) (by rw [c61]; decide) (by decide) (by decide) (by decide) (by decide) ?_
    refine Go.run (pc' := 226) [.aload_n 0] (ls' := [some (.ref a0), some (.int x1), some (.int x2), some (.int (x2 / (32 : Int32)))]) (st' := [.ref a0]) (by decide +kernel) rfl rfl ?_
    obtain ⟨v62, e63, e⟩ := bd_inv e
    refine Go.callH (M2 := m_Q_undo) (as := [.ref a0]) (rest := []) (v := some (.long v62.1)) (h1 := v62.2) (x_Q_undo hf hI k0 e63) wh_Q_185 (by decide +kernel) rfl rfl ⟨⟨Nat.le_of_ble_eq_true rfl, Nat.le_of_ble_eq_true rfl⟩, ⟨Nat.le_of_ble_eq_true rfl, Nat.le_of_ble_eq_true rfl⟩⟩ (Nat.le_of_ble_eq_true rfl) ?_
    show Go l D ad aC (rmk m_Q_act) _ m_Q_act 229 [some (.ref a0), some (.int x1), some (.int x2), some (.int (x2 / (32 : Int32)))] [.long v62.1] v62.2 1 6
    obtain rfl := Option.some.inj e
    exact Go.lret rfl (by decide) (by decide) (by decide +kernel)
  replace e := ite_f c61 e
  rcases Decidable.em ((x1 - x1 / (24 : Int32) * (24 : Int32)) = 21) with c64 | c64
  · replace e := ite_t c64 e
    refine Go.tsIn (dflt := 221) (lo := 0) (hi := 21) (offs := #[103, 114, 114, 114, 132, 132, 132, 152, 152, 152, 152, 152, 152, 170, 179, 179, 179, 192, 192, 203, 216, 216]) (len := 103) (off := 216) (tgt := 225) 21 (by decide +kernel) (by rw [c64]; decide) (by decide) (by decide) (by decide) (by decide) ?_
    refine Go.run (pc' := 226) [.aload_n 0] (ls' := [some (.ref a0), some (.int x1), some (.int x2), some (.int (x2 / (32 : Int32)))]) (st' := [.ref a0]) (by decide +kernel) rfl rfl ?_
    obtain ⟨v65, e66, e⟩ := bd_inv e
    refine Go.callH (M2 := m_Q_undo) (as := [.ref a0]) (rest := []) (v := some (.long v65.1)) (h1 := v65.2) (x_Q_undo hf hI k0 e66) wh_Q_185 (by decide +kernel) rfl rfl ⟨⟨Nat.le_of_ble_eq_true rfl, Nat.le_of_ble_eq_true rfl⟩, ⟨Nat.le_of_ble_eq_true rfl, Nat.le_of_ble_eq_true rfl⟩⟩ (Nat.le_of_ble_eq_true rfl) ?_
    show Go l D ad aC (rmk m_Q_act) _ m_Q_act 229 [some (.ref a0), some (.int x1), some (.int x2), some (.int (x2 / (32 : Int32)))] [.long v65.1] v65.2 1 6
    obtain rfl := Option.some.inj e
    exact Go.lret rfl (by decide) (by decide) (by decide +kernel)
  replace e := ite_f c64 e
  refine Go.tsOut (dflt := 221) (lo := 0) (hi := 21) (offs := #[103, 114, 114, 114, 132, 132, 132, 152, 152, 152, 152, 152, 152, 170, 179, 179, 179, 192, 192, 203, 216, 216]) (len := 103) (tgt := 230) (by decide +kernel) (by have zc1 := lv_neT c1 (a := 0) rfl; have zc4 := lv_neT c4 (a := 1) rfl; have zc7 := lv_neT c7 (a := 2) rfl; have zc10 := lv_neT c10 (a := 3) rfl; have zc13 := lv_neT c13 (a := 4) rfl; have zc16 := lv_neT c16 (a := 5) rfl; have zc19 := lv_neT c19 (a := 6) rfl; have zc22 := lv_neT c22 (a := 7) rfl; have zc25 := lv_neT c25 (a := 8) rfl; have zc28 := lv_neT c28 (a := 9) rfl; have zc31 := lv_neT c31 (a := 10) rfl; have zc34 := lv_neT c34 (a := 11) rfl; have zc37 := lv_neT c37 (a := 12) rfl; have zc40 := lv_neT c40 (a := 13) rfl; have zc43 := lv_neT c43 (a := 14) rfl; have zc46 := lv_neT c46 (a := 15) rfl; have zc49 := lv_neT c49 (a := 16) rfl; have zc52 := lv_neT c52 (a := 17) rfl; have zc55 := lv_neT c55 (a := 18) rfl; have zc58 := lv_neT c58 (a := 19) rfl; have zc61 := lv_neT c61 (a := 20) rfl; have zc64 := lv_neT c64 (a := 21) rfl; omega) (by decide) ?_
  refine Go.run (pc' := 233) [.iload_n 3, .iconst 2, .irem] (ls' := [some (.ref a0), some (.int x1), some (.int x2), some (.int (x2 / (32 : Int32)))]) (st' := [.int ((x2 / (32 : Int32)) - (x2 / (32 : Int32)) / (2 : Int32) * (2 : Int32))]) (by decide +kernel) rfl rfl ?_
  refine Go.if_ne (off := 15) (tgt := 248) (by decide +kernel) (by decide) (fun c67 => ?_) (fun c67 => ?_)
  · replace e := ite_f c67 e
    refine Go.run (pc' := 254) [.aload_n 0, .iload_n 3, .iconst 2, .idiv, .iconst 1, .iand] (ls' := [some (.ref a0), some (.int x1), some (.int x2), some (.int (x2 / (32 : Int32)))]) (st' := [.int (((x2 / (32 : Int32)) / (2 : Int32)) &&& (1 : Int32)), .ref a0]) (by decide +kernel) rfl rfl ?_
    obtain ⟨v68, e69, e⟩ := bd_inv e
    refine Go.callH (M2 := m_Q_restore) (as := [.ref a0, .int (((x2 / (32 : Int32)) / (2 : Int32)) &&& (1 : Int32))]) (rest := []) (v := some (.long v68.1)) (h1 := v68.2) (x_Q_restore hf hI k0 e69) wh_Q_173 (by decide +kernel) rfl rfl ⟨⟨Nat.le_of_ble_eq_true rfl, Nat.le_of_ble_eq_true rfl⟩, ⟨Nat.le_of_ble_eq_true rfl, Nat.le_of_ble_eq_true rfl⟩⟩ (Nat.le_of_ble_eq_true rfl) ?_
    show Go l D ad aC (rmk m_Q_act) _ m_Q_act 257 [some (.ref a0), some (.int x1), some (.int x2), some (.int (x2 / (32 : Int32)))] [.long v68.1] v68.2 1 6
    obtain rfl := Option.some.inj e
    exact Go.lret rfl (by decide) (by decide) (by decide +kernel)
  · replace e := ite_t c67 e
    refine Go.run (pc' := 242) [.aload_n 0, .iload_n 3, .iconst 2, .idiv, .iconst 1, .iand] (ls' := [some (.ref a0), some (.int x1), some (.int x2), some (.int (x2 / (32 : Int32)))]) (st' := [.int (((x2 / (32 : Int32)) / (2 : Int32)) &&& (1 : Int32)), .ref a0]) (by decide +kernel) rfl rfl ?_
    obtain ⟨v70, e71, e⟩ := bd_inv e
    refine Go.callH (M2 := m_Q_save) (as := [.ref a0, .int (((x2 / (32 : Int32)) / (2 : Int32)) &&& (1 : Int32))]) (rest := []) (v := some (.long v70.1)) (h1 := v70.2) (x_Q_save hf hI k0 e71) wh_Q_171 (by decide +kernel) rfl rfl ⟨⟨Nat.le_of_ble_eq_true rfl, Nat.le_of_ble_eq_true rfl⟩, ⟨Nat.le_of_ble_eq_true rfl, Nat.le_of_ble_eq_true rfl⟩⟩ (Nat.le_of_ble_eq_true rfl) ?_
    show Go l D ad aC (rmk m_Q_act) _ m_Q_act 245 [some (.ref a0), some (.int x1), some (.int x2), some (.int (x2 / (32 : Int32)))] [.long v70.1] v70.2 1 6
    refine Go.goto (off := 12) (tgt := 257) (by decide +kernel) (by decide) ?_
    obtain rfl := Option.some.inj e
    exact Go.lret rfl (by decide) (by decide) (by decide +kernel)
