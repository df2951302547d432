/-! printed by wip/whole/gen.py: what FairWallsModel compute, and the rows that tie it to the machine -/
def f_M_thrown (h : HP) (a0 : Nat) : Option (Int32) :=
  some (h a0 0)
set_option maxHeartbeats 1000000 in
theorem x_M_thrown {l : Launch} {D : va_G} {ad : Nat → Nat} {aC : Nat → ClassId} (hf : l.flags = flags0) (hI : Inj ad) {h : HP} {a0 : Nat} {r : Int32} (k0 : knd a0 = 8) (e : f_M_thrown h a0 = some r) : CT l D ad aC m_M_thrown [.ref a0] h (.inl (some (.int r))) h := by
  refine CT.ofGo (by decide +kernel) rfl (Nat.le_of_ble_eq_true rfl) ?_
  unfold f_M_thrown at e
  show Go l D ad aC (rmk m_M_thrown) _ m_M_thrown 0 [some (.ref a0)] [] h 0 0
  refine Go.run (pc' := 1) [.aload_n 0] (ls' := [some (.ref a0)]) (st' := [.ref a0]) (by decide +kernel) rfl rfl ?_
  refine Go.getI fo_M_45 k0 (by decide +kernel) ?_
  obtain rfl := Option.some.inj e
  exact Go.iret rfl (by decide) (by decide) (by decide +kernel)
def f_M_refused (h : HP) (a0 : Nat) (x1 : Int32) : Option (Int32 × HP) :=
  (some (hset h a0 0 x1)).bind fun h1 =>
  if x1 = 0 then
    some ((0 : Int32), h1)
  else
    some ((1 : Int32), h1)
set_option maxHeartbeats 1000000 in
theorem x_M_refused {l : Launch} {D : va_G} {ad : Nat → Nat} {aC : Nat → ClassId} (hf : l.flags = flags0) (hI : Inj ad) {h : HP} {a0 : Nat} {x1 : Int32} {r : Int32 × HP} (k0 : knd a0 = 8) (e : f_M_refused h a0 x1 = some r) : CT l D ad aC m_M_refused [.ref a0, .int x1] h (.inl (some (.int r.1))) r.2 := by
  refine CT.ofGo (by decide +kernel) rfl (Nat.le_of_ble_eq_true rfl) ?_
  unfold f_M_refused at e
  show Go l D ad aC (rmk m_M_refused) _ m_M_refused 0 [some (.ref a0), some (.int x1)] [] h 0 0
  refine Go.run (pc' := 2) [.aload_n 0, .iload_n 1] (ls' := [some (.ref a0), some (.int x1)]) (st' := [.int x1, .ref a0]) (by decide +kernel) rfl rfl ?_
  refine Go.put hI po_M_45 k0 (nar_i _) (fit_i _) (by decide +kernel) ?_
  obtain ⟨h1, q2, e⟩ := bd_inv e
  refine Go.eqH (Option.some.inj q2) ?_
  refine Go.run (pc' := 6) [.iload_n 1] (ls' := [some (.ref a0), some (.int x1)]) (st' := [.int x1]) (by decide +kernel) rfl rfl ?_
  refine Go.if_eq (off := 7) (tgt := 13) (by decide +kernel) (by decide) (fun c3 => ?_) (fun c3 => ?_)
  · replace e := ite_t c3 e
    refine Go.run (pc' := 14) [.iconst 0] (ls' := [some (.ref a0), some (.int x1)]) (st' := [.int (0 : Int32)]) (by decide +kernel) rfl rfl ?_
    obtain rfl := Option.some.inj e
    exact Go.zret rfl nar_z0 (by decide) (by decide) (by decide +kernel)
  · replace e := ite_f c3 e
    refine Go.run (pc' := 10) [.iconst 1] (ls' := [some (.ref a0), some (.int x1)]) (st' := [.int (1 : Int32)]) (by decide +kernel) rfl rfl ?_
    refine Go.goto (off := 4) (tgt := 14) (by decide +kernel) (by decide) ?_
    obtain rfl := Option.some.inj e
    exact Go.zret rfl nar_z1 (by decide) (by decide) (by decide +kernel)
def f_M_in (h : HP) (y0 : Int64) (y2 : Int64) (y4 : Int64) : Option (Int32) :=
  if (lg_cmp y0 y2) < 0 then
    some (0 : Int32)
  else
    if 0 < (lg_cmp y0 y4) then
      some (0 : Int32)
    else
      some (1 : Int32)
set_option maxHeartbeats 1000000 in
theorem x_M_in {l : Launch} {D : va_G} {ad : Nat → Nat} {aC : Nat → ClassId} (hf : l.flags = flags0) (hI : Inj ad) {h : HP} {y0 : Int64} {y2 : Int64} {y4 : Int64} {r : Int32}  (e : f_M_in h y0 y2 y4 = some r) : CT l D ad aC m_M_in [.long y0, .long y2, .long y4] h (.inl (some (.int r))) h := by
  refine CT.ofGo (by decide +kernel) rfl (Nat.le_of_ble_eq_true rfl) ?_
  unfold f_M_in at e
  show Go l D ad aC (rmk m_M_in) _ m_M_in 0 [some (.long y0), none, some (.long y2), none, some (.long y4), none] [] h 0 0
  refine Go.run (pc' := 3) [.lload_n 0, .lload_n 2, .lcmp] (ls' := [some (.long y0), none, some (.long y2), none, some (.long y4), none]) (st' := [.int (lg_cmp y0 y2)]) (by decide +kernel) rfl rfl ?_
  refine Go.if_lt (off := 14) (tgt := 17) (by decide +kernel) (by decide) (fun c1 => ?_) (fun c1 => ?_)
  · replace e := ite_t c1 e
    refine Go.run (pc' := 18) [.iconst 0] (ls' := [some (.long y0), none, some (.long y2), none, some (.long y4), none]) (st' := [.int (0 : Int32)]) (by decide +kernel) rfl rfl ?_
    obtain rfl := Option.some.inj e
    exact Go.zret rfl nar_z0 (by decide) (by decide) (by decide +kernel)
  · replace e := ite_f c1 e
    refine Go.run (pc' := 10) [.lload_n 0, .lload 4, .lcmp] (ls' := [some (.long y0), none, some (.long y2), none, some (.long y4), none]) (st' := [.int (lg_cmp y0 y4)]) (by decide +kernel) rfl rfl ?_
    refine Go.if_gt (off := 7) (tgt := 17) (by decide +kernel) (by decide) (fun c2 => ?_) (fun c2 => ?_)
    · replace e := ite_t c2 e
      refine Go.run (pc' := 18) [.iconst 0] (ls' := [some (.long y0), none, some (.long y2), none, some (.long y4), none]) (st' := [.int (0 : Int32)]) (by decide +kernel) rfl rfl ?_
      obtain rfl := Option.some.inj e
      exact Go.zret rfl nar_z0 (by decide) (by decide) (by decide +kernel)
    · replace e := ite_f c2 e
      refine Go.run (pc' := 14) [.iconst 1] (ls' := [some (.long y0), none, some (.long y2), none, some (.long y4), none]) (st' := [.int (1 : Int32)]) (by decide +kernel) rfl rfl ?_
      refine Go.goto (off := 4) (tgt := 18) (by decide +kernel) (by decide) ?_
      obtain rfl := Option.some.inj e
      exact Go.zret rfl nar_z1 (by decide) (by decide) (by decide +kernel)
def f_M_tens_4 (h : HP)  : Nat → Int32 → Int64 → Int32 → Option (Int64)
  | 0, _, _, _ => none
  | n + 1, x0, y1, x3 =>
    if x0 ≤ x3 then
      some y1
    else
      f_M_tens_4 h n x0 (y1 * (10 : Int64)) (x3 + (1 : Int32))
set_option maxHeartbeats 1000000 in
theorem x_M_tens_4 {l : Launch} {D : va_G} {ad : Nat → Nat} {aC : Nat → ClassId} (hf : l.flags = flags0) (hI : Inj ad) {h : HP} : ∀ (n : Nat) {x0 : Int32} {y1 : Int64} {x3 : Int32} {r : Int64}, f_M_tens_4 h n x0 y1 x3 = some r → Go l D ad aC (rmk m_M_tens) (QM D ad aC m_M_tens (.inl (some (.long r))) h) m_M_tens 4 [some (.int x0), some (.long y1), none, some (.int x3)] [] h 0 0 := by
  intro n
  induction n with
  | zero => intro x0 y1 x3 r e; exact no_none e
  | succ n ih =>
    intro x0 y1 x3 r e
    rw [f_M_tens_4] at e
    refine Go.run (pc' := 6) [.iload_n 3, .iload_n 0] (ls' := [some (.int x0), some (.long y1), none, some (.int x3)]) (st' := [.int x0, .int x3]) (by decide +kernel) rfl rfl ?_
    refine Go.ic_ge (off := 15) (tgt := 21) (by decide +kernel) (by decide) (fun c1 => ?_) (fun c1 => ?_)
    · replace e := ite_t c1 e
      refine Go.run (pc' := 22) [.lload_n 1] (ls' := [some (.int x0), some (.long y1), none, some (.int x3)]) (st' := [.long y1]) (by decide +kernel) rfl rfl ?_
      obtain rfl := Option.some.inj e
      exact Go.lret rfl (by decide) (by decide) (by decide +kernel)
    · replace e := ite_f c1 e
      refine Go.run (pc' := 10) [.lload_n 1] (ls' := [some (.int x0), some (.long y1), none, some (.int x3)]) (st' := [.long y1]) (by decide +kernel) rfl rfl ?_
      refine Go.ldc2 lo_M_49 (by decide +kernel) ?_
      refine Go.run (pc' := 18) [.lmul, .lstore_n 1, .iinc 3 (1)] (ls' := [some (.int x0), some (.long (y1 * (10 : Int64))), none, some (.int (x3 + (1 : Int32)))]) (st' := []) (by decide +kernel) rfl rfl ?_
      refine Go.goto (off := -14) (tgt := 4) (by decide +kernel) (by decide) ?_
      exact ih  e
def f_M_tens (h : HP) (x0 : Int32) : Option (Int64) :=
  f_M_tens_4 h 4096 x0 (1 : Int64) (0 : Int32)
set_option maxHeartbeats 1000000 in
theorem x_M_tens {l : Launch} {D : va_G} {ad : Nat → Nat} {aC : Nat → ClassId} (hf : l.flags = flags0) (hI : Inj ad) {h : HP} {x0 : Int32} {r : Int64}  (e : f_M_tens h x0 = some r) : CT l D ad aC m_M_tens [.int x0] h (.inl (some (.long r))) h := by
  refine CT.ofGo (by decide +kernel) rfl (Nat.le_of_ble_eq_true rfl) ?_
  unfold f_M_tens at e
  show Go l D ad aC (rmk m_M_tens) _ m_M_tens 0 [some (.int x0), none, none, none] [] h 0 0
  refine Go.run (pc' := 4) [.lconst 1, .lstore_n 1, .iconst 0, .istore_n 3] (ls' := [some (.int x0), some (.long (1 : Int64)), none, some (.int (0 : Int32))]) (st' := []) (by decide +kernel) rfl rfl ?_
  exact x_M_tens_4 hf hI 4096  e
def f_M_fresh_2  : Nat → Nat → Int32 → HP → Option (HP)
  | 0, _, _, _ => none
  | n + 1, a0, x1, h =>
    if (196 : Int32) ≤ x1 then
      if ib (190 : Int32) 196 = true then
      (some (hset h a0 (190 : Int32).toNatClampNeg (6 : Int32))).bind fun h3 =>
      if ib (191 : Int32) 196 = true then
      (some (hset h3 a0 (191 : Int32).toNatClampNeg (1 : Int32))).bind fun h6 =>
      if ib (192 : Int32) 196 = true then
      (some (hset h6 a0 (192 : Int32).toNatClampNeg (5 : Int32))).bind fun h9 =>
      if ib (193 : Int32) 196 = true then
      (some (hset h9 a0 (193 : Int32).toNatClampNeg (3 : Int32))).bind fun h12 =>
      if ib (194 : Int32) 196 = true then
      (some (hset h12 a0 (194 : Int32).toNatClampNeg (4 : Int32))).bind fun h15 =>
      if ib (195 : Int32) 196 = true then
      (some (hset h15 a0 (195 : Int32).toNatClampNeg (2 : Int32))).bind fun h18 =>
      some h18
      else none
      else none
      else none
      else none
      else none
      else none
    else
      if ib x1 196 = true then
      (some (hset h a0 x1.toNatClampNeg (0 : Int32))).bind fun h21 =>
      f_M_fresh_2 n a0 (x1 + (1 : Int32)) h21
      else none
set_option maxHeartbeats 1000000 in
theorem x_M_fresh_2 {l : Launch} {D : va_G} {ad : Nat → Nat} {aC : Nat → ClassId} (hf : l.flags = flags0) (hI : Inj ad) : ∀ (n : Nat) {a0 : Nat} {x1 : Int32} {h : HP} {r : HP}, knd a0 = 10 → alen a0 = 196 → f_M_fresh_2 n a0 x1 h = some r → Go l D ad aC (rmk m_M_fresh) (QM D ad aC m_M_fresh (.inl none) r) m_M_fresh 2 [some (.ref a0), some (.int x1)] [] h 0 0 := by
  intro n
  induction n with
  | zero => intro a0 x1 h r k0 q0 e; exact no_none e
  | succ n ih =>
    intro a0 x1 h r k0 q0 e
    rw [f_M_fresh_2] at e
    refine Go.run (pc' := 6) [.iload_n 1, .sipush (196)] (ls' := [some (.ref a0), some (.int x1)]) (st' := [.int (196 : Int32), .int x1]) (by decide +kernel) rfl rfl ?_
    refine Go.ic_ge (off := 13) (tgt := 19) (by decide +kernel) (by decide) (fun c1 => ?_) (fun c1 => ?_)
    · replace e := ite_t c1 e
      refine Go.run (pc' := 25) [.aload_n 0, .sipush (190), .bipush (6)] (ls' := [some (.ref a0), some (.int x1)]) (st' := [.int (6 : Int32), .int (190 : Int32), .ref a0]) (by decide +kernel) rfl rfl ?_
      obtain ⟨g2, e⟩ := gd_inv e
      refine Go.iast hI k0 q0 g2 (by decide +kernel) ?_
      obtain ⟨h3, q4, e⟩ := bd_inv e
      refine Go.eqH (Option.some.inj q4) ?_
      refine Go.run (pc' := 31) [.aload_n 0, .sipush (191), .iconst 1] (ls' := [some (.ref a0), some (.int x1)]) (st' := [.int (1 : Int32), .int (191 : Int32), .ref a0]) (by decide +kernel) rfl rfl ?_
      obtain ⟨g5, e⟩ := gd_inv e
      refine Go.iast hI k0 q0 g5 (by decide +kernel) ?_
      obtain ⟨h6, q7, e⟩ := bd_inv e
      refine Go.eqH (Option.some.inj q7) ?_
      refine Go.run (pc' := 37) [.aload_n 0, .sipush (192), .iconst 5] (ls' := [some (.ref a0), some (.int x1)]) (st' := [.int (5 : Int32), .int (192 : Int32), .ref a0]) (by decide +kernel) rfl rfl ?_
      obtain ⟨g8, e⟩ := gd_inv e
      refine Go.iast hI k0 q0 g8 (by decide +kernel) ?_
      obtain ⟨h9, q10, e⟩ := bd_inv e
      refine Go.eqH (Option.some.inj q10) ?_
      refine Go.run (pc' := 43) [.aload_n 0, .sipush (193), .iconst 3] (ls' := [some (.ref a0), some (.int x1)]) (st' := [.int (3 : Int32), .int (193 : Int32), .ref a0]) (by decide +kernel) rfl rfl ?_
      obtain ⟨g11, e⟩ := gd_inv e
      refine Go.iast hI k0 q0 g11 (by decide +kernel) ?_
      obtain ⟨h12, q13, e⟩ := bd_inv e
      refine Go.eqH (Option.some.inj q13) ?_
      refine Go.run (pc' := 49) [.aload_n 0, .sipush (194), .iconst 4] (ls' := [some (.ref a0), some (.int x1)]) (st' := [.int (4 : Int32), .int (194 : Int32), .ref a0]) (by decide +kernel) rfl rfl ?_
      obtain ⟨g14, e⟩ := gd_inv e
      refine Go.iast hI k0 q0 g14 (by decide +kernel) ?_
      obtain ⟨h15, q16, e⟩ := bd_inv e
      refine Go.eqH (Option.some.inj q16) ?_
      refine Go.run (pc' := 55) [.aload_n 0, .sipush (195), .iconst 2] (ls' := [some (.ref a0), some (.int x1)]) (st' := [.int (2 : Int32), .int (195 : Int32), .ref a0]) (by decide +kernel) rfl rfl ?_
      obtain ⟨g17, e⟩ := gd_inv e
      refine Go.iast hI k0 q0 g17 (by decide +kernel) ?_
      obtain ⟨h18, q19, e⟩ := bd_inv e
      refine Go.eqH (Option.some.inj q19) ?_
      obtain rfl := Option.some.inj e
      exact Go.vret rfl (by decide) (by decide) (by decide +kernel)
    · replace e := ite_f c1 e
      refine Go.run (pc' := 12) [.aload_n 0, .iload_n 1, .iconst 0] (ls' := [some (.ref a0), some (.int x1)]) (st' := [.int (0 : Int32), .int x1, .ref a0]) (by decide +kernel) rfl rfl ?_
      obtain ⟨g20, e⟩ := gd_inv e
      refine Go.iast hI k0 q0 g20 (by decide +kernel) ?_
      obtain ⟨h21, q22, e⟩ := bd_inv e
      refine Go.eqH (Option.some.inj q22) ?_
      refine Go.run (pc' := 16) [.iinc 1 (1)] (ls' := [some (.ref a0), some (.int (x1 + (1 : Int32)))]) (st' := []) (by decide +kernel) rfl rfl ?_
      refine Go.goto (off := -14) (tgt := 2) (by decide +kernel) (by decide) ?_
      exact ih k0 q0 e
def f_M_fresh (h : HP) (a0 : Nat) : Option (HP) :=
  f_M_fresh_2 4096 a0 (0 : Int32) h
set_option maxHeartbeats 1000000 in
theorem x_M_fresh {l : Launch} {D : va_G} {ad : Nat → Nat} {aC : Nat → ClassId} (hf : l.flags = flags0) (hI : Inj ad) {h : HP} {a0 : Nat} {r : HP} (k0 : knd a0 = 10) (q0 : alen a0 = 196) (e : f_M_fresh h a0 = some r) : CT l D ad aC m_M_fresh [.ref a0] h (.inl none) r := by
  refine CT.ofGo (by decide +kernel) rfl (Nat.le_of_ble_eq_true rfl) ?_
  unfold f_M_fresh at e
  show Go l D ad aC (rmk m_M_fresh) _ m_M_fresh 0 [some (.ref a0), none] [] h 0 0
  refine Go.run (pc' := 2) [.iconst 0, .istore_n 1] (ls' := [some (.ref a0), some (.int (0 : Int32))]) (st' := []) (by decide +kernel) rfl rfl ?_
  exact x_M_fresh_2 hf hI 4096 k0 q0 e
def f_M_copy_2  : Nat → Nat → Nat → Int32 → HP → Option (HP)
  | 0, _, _, _, _ => none
  | n + 1, a0, a1, x2, h =>
    if (196 : Int32) ≤ x2 then
      some h
    else
      if ib x2 196 = true then
      if ib x2 196 = true then
      (some (hset h a1 x2.toNatClampNeg (h a0 x2.toNatClampNeg))).bind fun h4 =>
      f_M_copy_2 n a0 a1 (x2 + (1 : Int32)) h4
      else none
      else none
set_option maxHeartbeats 1000000 in
theorem x_M_copy_2 {l : Launch} {D : va_G} {ad : Nat → Nat} {aC : Nat → ClassId} (hf : l.flags = flags0) (hI : Inj ad) : ∀ (n : Nat) {a0 : Nat} {a1 : Nat} {x2 : Int32} {h : HP} {r : HP}, knd a0 = 10 → alen a0 = 196 → knd a1 = 10 → alen a1 = 196 → f_M_copy_2 n a0 a1 x2 h = some r → Go l D ad aC (rmk m_M_copy) (QM D ad aC m_M_copy (.inl none) r) m_M_copy 2 [some (.ref a0), some (.ref a1), some (.int x2)] [] h 0 0 := by
  intro n
  induction n with
  | zero => intro a0 a1 x2 h r k0 q0 k1 q1 e; exact no_none e
  | succ n ih =>
    intro a0 a1 x2 h r k0 q0 k1 q1 e
    rw [f_M_copy_2] at e
    refine Go.run (pc' := 6) [.iload_n 2, .sipush (196)] (ls' := [some (.ref a0), some (.ref a1), some (.int x2)]) (st' := [.int (196 : Int32), .int x2]) (by decide +kernel) rfl rfl ?_
    refine Go.ic_ge (off := 15) (tgt := 21) (by decide +kernel) (by decide) (fun c1 => ?_) (fun c1 => ?_)
    · replace e := ite_t c1 e
      obtain rfl := Option.some.inj e
      exact Go.vret rfl (by decide) (by decide) (by decide +kernel)
    · replace e := ite_f c1 e
      refine Go.run (pc' := 13) [.aload_n 1, .iload_n 2, .aload_n 0, .iload_n 2] (ls' := [some (.ref a0), some (.ref a1), some (.int x2)]) (st' := [.int x2, .ref a0, .int x2, .ref a1]) (by decide +kernel) rfl rfl ?_
      obtain ⟨g2, e⟩ := gd_inv e
      refine Go.iald k0 q0 g2 (by decide +kernel) ?_
      obtain ⟨g3, e⟩ := gd_inv e
      refine Go.iast hI k1 q1 g3 (by decide +kernel) ?_
      obtain ⟨h4, q5, e⟩ := bd_inv e
      refine Go.eqH (Option.some.inj q5) ?_
      refine Go.run (pc' := 18) [.iinc 2 (1)] (ls' := [some (.ref a0), some (.ref a1), some (.int (x2 + (1 : Int32)))]) (st' := []) (by decide +kernel) rfl rfl ?_
      refine Go.goto (off := -16) (tgt := 2) (by decide +kernel) (by decide) ?_
      exact ih k0 q0 k1 q1 e
def f_M_copy (h : HP) (a0 : Nat) (a1 : Nat) : Option (HP) :=
  f_M_copy_2 4096 a0 a1 (0 : Int32) h
set_option maxHeartbeats 1000000 in
theorem x_M_copy {l : Launch} {D : va_G} {ad : Nat → Nat} {aC : Nat → ClassId} (hf : l.flags = flags0) (hI : Inj ad) {h : HP} {a0 : Nat} {a1 : Nat} {r : HP} (k0 : knd a0 = 10) (q0 : alen a0 = 196) (k1 : knd a1 = 10) (q1 : alen a1 = 196) (e : f_M_copy h a0 a1 = some r) : CT l D ad aC m_M_copy [.ref a0, .ref a1] h (.inl none) r := by
  refine CT.ofGo (by decide +kernel) rfl (Nat.le_of_ble_eq_true rfl) ?_
  unfold f_M_copy at e
  show Go l D ad aC (rmk m_M_copy) _ m_M_copy 0 [some (.ref a0), some (.ref a1), none] [] h 0 0
  refine Go.run (pc' := 2) [.iconst 0, .istore_n 2] (ls' := [some (.ref a0), some (.ref a1), some (.int (0 : Int32))]) (st' := []) (by decide +kernel) rfl rfl ?_
  exact x_M_copy_2 hf hI 4096 k0 q0 k1 q1 e
def f_M_isWall (h : HP) (a0 : Nat) (x1 : Int32) : Option (Int32) :=
  if ib (184 : Int32) 196 = true then
  (f_M_in h x1.toInt64 (0 : Int64) (((h a0 (184 : Int32).toNatClampNeg) - (1 : Int32)).toInt64)).bind fun v2 =>
  if isB v2 = true then
  some v2
  else none
  else none
set_option maxHeartbeats 1000000 in
theorem x_M_isWall {l : Launch} {D : va_G} {ad : Nat → Nat} {aC : Nat → ClassId} (hf : l.flags = flags0) (hI : Inj ad) {h : HP} {a0 : Nat} {x1 : Int32} {r : Int32} (k0 : knd a0 = 10) (q0 : alen a0 = 196) (e : f_M_isWall h a0 x1 = some r) : CT l D ad aC m_M_isWall [.ref a0, .int x1] h (.inl (some (.int r))) h := by
  refine CT.ofGo (by decide +kernel) rfl (Nat.le_of_ble_eq_true rfl) ?_
  unfold f_M_isWall at e
  show Go l D ad aC (rmk m_M_isWall) _ m_M_isWall 0 [some (.ref a0), some (.int x1)] [] h 0 0
  refine Go.run (pc' := 7) [.iload_n 1, .i2l, .lconst 0, .aload_n 0, .sipush (184)] (ls' := [some (.ref a0), some (.int x1)]) (st' := [.int (184 : Int32), .ref a0, .long (0 : Int64), .long x1.toInt64]) (by decide +kernel) rfl rfl ?_
  obtain ⟨g1, e⟩ := gd_inv e
  refine Go.iald k0 q0 g1 (by decide +kernel) ?_
  refine Go.run (pc' := 11) [.iconst 1, .isub, .i2l] (ls' := [some (.ref a0), some (.int x1)]) (st' := [.long (((h a0 (184 : Int32).toNatClampNeg) - (1 : Int32)).toInt64), .long (0 : Int64), .long x1.toInt64]) (by decide +kernel) rfl rfl ?_
  obtain ⟨v2, e3, e⟩ := bd_inv e
  refine Go.callS (M2 := m_M_in) (as := [.long x1.toInt64, .long (0 : Int64), .long (((h a0 (184 : Int32).toNatClampNeg) - (1 : Int32)).toInt64)]) (rest := []) (v := some (.int v2)) (h1 := h) (x_M_in hf hI  e3) ws_M_51 (by decide +kernel) rfl rfl ⟨⟨Nat.le_of_ble_eq_true rfl, Nat.le_of_ble_eq_true rfl⟩, ⟨Nat.le_of_ble_eq_true rfl, Nat.le_of_ble_eq_true rfl⟩⟩ (Nat.le_of_ble_eq_true rfl) ?_
  show Go l D ad aC (rmk m_M_isWall) _ m_M_isWall 14 [some (.ref a0), some (.int x1)] [.int v2] h 0 0
  obtain ⟨g4, e⟩ := gd_inv e
  obtain rfl := Option.some.inj e
  exact Go.zret rfl (isB_nar g4) (by decide) (by decide) (by decide +kernel)
def f_M_isMetre (h : HP) (a0 : Nat) (x1 : Int32) (x2 : Int32) : Option (Int32) :=
  (f_M_isWall h a0 x1).bind fun v1 =>
  if v1 = 0 then
    some (0 : Int32)
  else
    if ib ((31 : Int32) * x1) 196 = true then
    (f_M_in h x2.toInt64 (0 : Int64) (((h a0 ((31 : Int32) * x1).toNatClampNeg) - (1 : Int32)).toInt64)).bind fun v5 =>
    if v5 = 0 then
      some (0 : Int32)
    else
      some (1 : Int32)
    else none
set_option maxHeartbeats 1000000 in
theorem x_M_isMetre {l : Launch} {D : va_G} {ad : Nat → Nat} {aC : Nat → ClassId} (hf : l.flags = flags0) (hI : Inj ad) {h : HP} {a0 : Nat} {x1 : Int32} {x2 : Int32} {r : Int32} (k0 : knd a0 = 10) (q0 : alen a0 = 196) (e : f_M_isMetre h a0 x1 x2 = some r) : CT l D ad aC m_M_isMetre [.ref a0, .int x1, .int x2] h (.inl (some (.int r))) h := by
  refine CT.ofGo (by decide +kernel) rfl (Nat.le_of_ble_eq_true rfl) ?_
  unfold f_M_isMetre at e
  show Go l D ad aC (rmk m_M_isMetre) _ m_M_isMetre 0 [some (.ref a0), some (.int x1), some (.int x2)] [] h 0 0
  refine Go.run (pc' := 2) [.aload_n 0, .iload_n 1] (ls' := [some (.ref a0), some (.int x1), some (.int x2)]) (st' := [.int x1, .ref a0]) (by decide +kernel) rfl rfl ?_
  obtain ⟨v1, e2, e⟩ := bd_inv e
  refine Go.callS (M2 := m_M_isWall) (as := [.ref a0, .int x1]) (rest := []) (v := some (.int v1)) (h1 := h) (x_M_isWall hf hI k0 q0 e2) ws_M_55 (by decide +kernel) rfl rfl ⟨⟨Nat.le_of_ble_eq_true rfl, Nat.le_of_ble_eq_true rfl⟩, ⟨Nat.le_of_ble_eq_true rfl, Nat.le_of_ble_eq_true rfl⟩⟩ (Nat.le_of_ble_eq_true rfl) ?_
  show Go l D ad aC (rmk m_M_isMetre) _ m_M_isMetre 5 [some (.ref a0), some (.int x1), some (.int x2)] [.int v1] h 0 0
  refine Go.if_eq (off := 25) (tgt := 30) (by decide +kernel) (by decide) (fun c3 => ?_) (fun c3 => ?_)
  · replace e := ite_t c3 e
    refine Go.run (pc' := 31) [.iconst 0] (ls' := [some (.ref a0), some (.int x1), some (.int x2)]) (st' := [.int (0 : Int32)]) (by decide +kernel) rfl rfl ?_
    obtain rfl := Option.some.inj e
    exact Go.zret rfl nar_z0 (by decide) (by decide) (by decide +kernel)
  · replace e := ite_f c3 e
    refine Go.run (pc' := 16) [.iload_n 2, .i2l, .lconst 0, .aload_n 0, .bipush (31), .iload_n 1, .imul] (ls' := [some (.ref a0), some (.int x1), some (.int x2)]) (st' := [.int ((31 : Int32) * x1), .ref a0, .long (0 : Int64), .long x2.toInt64]) (by decide +kernel) rfl rfl ?_
    obtain ⟨g4, e⟩ := gd_inv e
    refine Go.iald k0 q0 g4 (by decide +kernel) ?_
    refine Go.run (pc' := 20) [.iconst 1, .isub, .i2l] (ls' := [some (.ref a0), some (.int x1), some (.int x2)]) (st' := [.long (((h a0 ((31 : Int32) * x1).toNatClampNeg) - (1 : Int32)).toInt64), .long (0 : Int64), .long x2.toInt64]) (by decide +kernel) rfl rfl ?_
    obtain ⟨v5, e6, e⟩ := bd_inv e
    refine Go.callS (M2 := m_M_in) (as := [.long x2.toInt64, .long (0 : Int64), .long (((h a0 ((31 : Int32) * x1).toNatClampNeg) - (1 : Int32)).toInt64)]) (rest := []) (v := some (.int v5)) (h1 := h) (x_M_in hf hI  e6) ws_M_51 (by decide +kernel) rfl rfl ⟨⟨Nat.le_of_ble_eq_true rfl, Nat.le_of_ble_eq_true rfl⟩, ⟨Nat.le_of_ble_eq_true rfl, Nat.le_of_ble_eq_true rfl⟩⟩ (Nat.le_of_ble_eq_true rfl) ?_
    show Go l D ad aC (rmk m_M_isMetre) _ m_M_isMetre 23 [some (.ref a0), some (.int x1), some (.int x2)] [.int v5] h 0 0
    refine Go.if_eq (off := 7) (tgt := 30) (by decide +kernel) (by decide) (fun c7 => ?_) (fun c7 => ?_)
    · replace e := ite_t c7 e
      refine Go.run (pc' := 31) [.iconst 0] (ls' := [some (.ref a0), some (.int x1), some (.int x2)]) (st' := [.int (0 : Int32)]) (by decide +kernel) rfl rfl ?_
      obtain rfl := Option.some.inj e
      exact Go.zret rfl nar_z0 (by decide) (by decide) (by decide +kernel)
    · replace e := ite_f c7 e
      refine Go.run (pc' := 27) [.iconst 1] (ls' := [some (.ref a0), some (.int x1), some (.int x2)]) (st' := [.int (1 : Int32)]) (by decide +kernel) rfl rfl ?_
      refine Go.goto (off := 4) (tgt := 31) (by decide +kernel) (by decide) ?_
      obtain rfl := Option.some.inj e
      exact Go.zret rfl nar_z1 (by decide) (by decide) (by decide +kernel)
def f_M_isDealer (h : HP) (a0 : Nat) (x1 : Int32) : Option (Int32) :=
  if ib (185 : Int32) 196 = true then
  (f_M_in h x1.toInt64 (0 : Int64) (((h a0 (185 : Int32).toNatClampNeg) - (1 : Int32)).toInt64)).bind fun v2 =>
  if isB v2 = true then
  some v2
  else none
  else none
set_option maxHeartbeats 1000000 in
theorem x_M_isDealer {l : Launch} {D : va_G} {ad : Nat → Nat} {aC : Nat → ClassId} (hf : l.flags = flags0) (hI : Inj ad) {h : HP} {a0 : Nat} {x1 : Int32} {r : Int32} (k0 : knd a0 = 10) (q0 : alen a0 = 196) (e : f_M_isDealer h a0 x1 = some r) : CT l D ad aC m_M_isDealer [.ref a0, .int x1] h (.inl (some (.int r))) h := by
  refine CT.ofGo (by decide +kernel) rfl (Nat.le_of_ble_eq_true rfl) ?_
  unfold f_M_isDealer at e
  show Go l D ad aC (rmk m_M_isDealer) _ m_M_isDealer 0 [some (.ref a0), some (.int x1)] [] h 0 0
  refine Go.run (pc' := 7) [.iload_n 1, .i2l, .lconst 0, .aload_n 0, .sipush (185)] (ls' := [some (.ref a0), some (.int x1)]) (st' := [.int (185 : Int32), .ref a0, .long (0 : Int64), .long x1.toInt64]) (by decide +kernel) rfl rfl ?_
  obtain ⟨g1, e⟩ := gd_inv e
  refine Go.iald k0 q0 g1 (by decide +kernel) ?_
  refine Go.run (pc' := 11) [.iconst 1, .isub, .i2l] (ls' := [some (.ref a0), some (.int x1)]) (st' := [.long (((h a0 (185 : Int32).toNatClampNeg) - (1 : Int32)).toInt64), .long (0 : Int64), .long x1.toInt64]) (by decide +kernel) rfl rfl ?_
  obtain ⟨v2, e3, e⟩ := bd_inv e
  refine Go.callS (M2 := m_M_in) (as := [.long x1.toInt64, .long (0 : Int64), .long (((h a0 (185 : Int32).toNatClampNeg) - (1 : Int32)).toInt64)]) (rest := []) (v := some (.int v2)) (h1 := h) (x_M_in hf hI  e3) ws_M_51 (by decide +kernel) rfl rfl ⟨⟨Nat.le_of_ble_eq_true rfl, Nat.le_of_ble_eq_true rfl⟩, ⟨Nat.le_of_ble_eq_true rfl, Nat.le_of_ble_eq_true rfl⟩⟩ (Nat.le_of_ble_eq_true rfl) ?_
  show Go l D ad aC (rmk m_M_isDealer) _ m_M_isDealer 14 [some (.ref a0), some (.int x1)] [.int v2] h 0 0
  obtain ⟨g4, e⟩ := gd_inv e
  obtain rfl := Option.some.inj e
  exact Go.zret rfl (isB_nar g4) (by decide) (by decide) (by decide +kernel)
def f_M_isLength (h : HP) (x0 : Int32) : Option (Int32) :=
  (f_M_in h x0.toInt64 (4 : Int64) (30 : Int64)).bind fun v1 =>
  if isB v1 = true then
  some v1
  else none
set_option maxHeartbeats 1000000 in
theorem x_M_isLength {l : Launch} {D : va_G} {ad : Nat → Nat} {aC : Nat → ClassId} (hf : l.flags = flags0) (hI : Inj ad) {h : HP} {x0 : Int32} {r : Int32}  (e : f_M_isLength h x0 = some r) : CT l D ad aC m_M_isLength [.int x0] h (.inl (some (.int r))) h := by
  refine CT.ofGo (by decide +kernel) rfl (Nat.le_of_ble_eq_true rfl) ?_
  unfold f_M_isLength at e
  show Go l D ad aC (rmk m_M_isLength) _ m_M_isLength 0 [some (.int x0)] [] h 0 0
  refine Go.run (pc' := 2) [.iload_n 0, .i2l] (ls' := [some (.int x0)]) (st' := [.long x0.toInt64]) (by decide +kernel) rfl rfl ?_
  refine Go.ldc2 lo_M_59 (by decide +kernel) ?_
  refine Go.ldc2 lo_M_61 (by decide +kernel) ?_
  obtain ⟨v1, e2, e⟩ := bd_inv e
  refine Go.callS (M2 := m_M_in) (as := [.long x0.toInt64, .long (4 : Int64), .long (30 : Int64)]) (rest := []) (v := some (.int v1)) (h1 := h) (x_M_in hf hI  e2) ws_M_51 (by decide +kernel) rfl rfl ⟨⟨Nat.le_of_ble_eq_true rfl, Nat.le_of_ble_eq_true rfl⟩, ⟨Nat.le_of_ble_eq_true rfl, Nat.le_of_ble_eq_true rfl⟩⟩ (Nat.le_of_ble_eq_true rfl) ?_
  show Go l D ad aC (rmk m_M_isLength) _ m_M_isLength 11 [some (.int x0)] [.int v1] h 0 0
  obtain ⟨g3, e⟩ := gd_inv e
  obtain rfl := Option.some.inj e
  exact Go.zret rfl (isB_nar g3) (by decide) (by decide) (by decide +kernel)
def f_M_isKind (h : HP) (x0 : Int32) (x1 : Int32) (x2 : Int32) : Option (Int32) :=
  (f_M_in h x0.toInt64 (0 : Int64) (5 : Int64)).bind fun v1 =>
  if v1 = 0 then
    some (0 : Int32)
  else
    (f_M_in h x1.toInt64 (1 : Int64) (9 : Int64)).bind fun v4 =>
    if v4 = 0 then
      some (0 : Int32)
    else
      (f_M_in h x2.toInt64 (0 : Int64) (3 : Int64)).bind fun v7 =>
      if v7 = 0 then
        some (0 : Int32)
      else
        some (1 : Int32)
set_option maxHeartbeats 1000000 in
theorem x_M_isKind {l : Launch} {D : va_G} {ad : Nat → Nat} {aC : Nat → ClassId} (hf : l.flags = flags0) (hI : Inj ad) {h : HP} {x0 : Int32} {x1 : Int32} {x2 : Int32} {r : Int32}  (e : f_M_isKind h x0 x1 x2 = some r) : CT l D ad aC m_M_isKind [.int x0, .int x1, .int x2] h (.inl (some (.int r))) h := by
  refine CT.ofGo (by decide +kernel) rfl (Nat.le_of_ble_eq_true rfl) ?_
  unfold f_M_isKind at e
  show Go l D ad aC (rmk m_M_isKind) _ m_M_isKind 0 [some (.int x0), some (.int x1), some (.int x2)] [] h 0 0
  refine Go.run (pc' := 3) [.iload_n 0, .i2l, .lconst 0] (ls' := [some (.int x0), some (.int x1), some (.int x2)]) (st' := [.long (0 : Int64), .long x0.toInt64]) (by decide +kernel) rfl rfl ?_
  refine Go.ldc2 lo_M_63 (by decide +kernel) ?_
  obtain ⟨v1, e2, e⟩ := bd_inv e
  refine Go.callS (M2 := m_M_in) (as := [.long x0.toInt64, .long (0 : Int64), .long (5 : Int64)]) (rest := []) (v := some (.int v1)) (h1 := h) (x_M_in hf hI  e2) ws_M_51 (by decide +kernel) rfl rfl ⟨⟨Nat.le_of_ble_eq_true rfl, Nat.le_of_ble_eq_true rfl⟩, ⟨Nat.le_of_ble_eq_true rfl, Nat.le_of_ble_eq_true rfl⟩⟩ (Nat.le_of_ble_eq_true rfl) ?_
  show Go l D ad aC (rmk m_M_isKind) _ m_M_isKind 9 [some (.int x0), some (.int x1), some (.int x2)] [.int v1] h 0 0
  refine Go.if_eq (off := 31) (tgt := 40) (by decide +kernel) (by decide) (fun c3 => ?_) (fun c3 => ?_)
  · replace e := ite_t c3 e
    refine Go.run (pc' := 41) [.iconst 0] (ls' := [some (.int x0), some (.int x1), some (.int x2)]) (st' := [.int (0 : Int32)]) (by decide +kernel) rfl rfl ?_
    obtain rfl := Option.some.inj e
    exact Go.zret rfl nar_z0 (by decide) (by decide) (by decide +kernel)
  · replace e := ite_f c3 e
    refine Go.run (pc' := 15) [.iload_n 1, .i2l, .lconst 1] (ls' := [some (.int x0), some (.int x1), some (.int x2)]) (st' := [.long (1 : Int64), .long x1.toInt64]) (by decide +kernel) rfl rfl ?_
    refine Go.ldc2 lo_M_65 (by decide +kernel) ?_
    obtain ⟨v4, e5, e⟩ := bd_inv e
    refine Go.callS (M2 := m_M_in) (as := [.long x1.toInt64, .long (1 : Int64), .long (9 : Int64)]) (rest := []) (v := some (.int v4)) (h1 := h) (x_M_in hf hI  e5) ws_M_51 (by decide +kernel) rfl rfl ⟨⟨Nat.le_of_ble_eq_true rfl, Nat.le_of_ble_eq_true rfl⟩, ⟨Nat.le_of_ble_eq_true rfl, Nat.le_of_ble_eq_true rfl⟩⟩ (Nat.le_of_ble_eq_true rfl) ?_
    show Go l D ad aC (rmk m_M_isKind) _ m_M_isKind 21 [some (.int x0), some (.int x1), some (.int x2)] [.int v4] h 0 0
    refine Go.if_eq (off := 19) (tgt := 40) (by decide +kernel) (by decide) (fun c6 => ?_) (fun c6 => ?_)
    · replace e := ite_t c6 e
      refine Go.run (pc' := 41) [.iconst 0] (ls' := [some (.int x0), some (.int x1), some (.int x2)]) (st' := [.int (0 : Int32)]) (by decide +kernel) rfl rfl ?_
      obtain rfl := Option.some.inj e
      exact Go.zret rfl nar_z0 (by decide) (by decide) (by decide +kernel)
    · replace e := ite_f c6 e
      refine Go.run (pc' := 27) [.iload_n 2, .i2l, .lconst 0] (ls' := [some (.int x0), some (.int x1), some (.int x2)]) (st' := [.long (0 : Int64), .long x2.toInt64]) (by decide +kernel) rfl rfl ?_
      refine Go.ldc2 lo_M_67 (by decide +kernel) ?_
      obtain ⟨v7, e8, e⟩ := bd_inv e
      refine Go.callS (M2 := m_M_in) (as := [.long x2.toInt64, .long (0 : Int64), .long (3 : Int64)]) (rest := []) (v := some (.int v7)) (h1 := h) (x_M_in hf hI  e8) ws_M_51 (by decide +kernel) rfl rfl ⟨⟨Nat.le_of_ble_eq_true rfl, Nat.le_of_ble_eq_true rfl⟩, ⟨Nat.le_of_ble_eq_true rfl, Nat.le_of_ble_eq_true rfl⟩⟩ (Nat.le_of_ble_eq_true rfl) ?_
      show Go l D ad aC (rmk m_M_isKind) _ m_M_isKind 33 [some (.int x0), some (.int x1), some (.int x2)] [.int v7] h 0 0
      refine Go.if_eq (off := 7) (tgt := 40) (by decide +kernel) (by decide) (fun c9 => ?_) (fun c9 => ?_)
      · replace e := ite_t c9 e
        refine Go.run (pc' := 41) [.iconst 0] (ls' := [some (.int x0), some (.int x1), some (.int x2)]) (st' := [.int (0 : Int32)]) (by decide +kernel) rfl rfl ?_
        obtain rfl := Option.some.inj e
        exact Go.zret rfl nar_z0 (by decide) (by decide) (by decide +kernel)
      · replace e := ite_f c9 e
        refine Go.run (pc' := 37) [.iconst 1] (ls' := [some (.int x0), some (.int x1), some (.int x2)]) (st' := [.int (1 : Int32)]) (by decide +kernel) rfl rfl ?_
        refine Go.goto (off := 4) (tgt := 41) (by decide +kernel) (by decide) ?_
        obtain rfl := Option.some.inj e
        exact Go.zret rfl nar_z1 (by decide) (by decide) (by decide +kernel)
def f_M_isSetting_34 (h : HP)  (t0 : Int64) (t1 : Int64) (t2 : Int64) : Option (Int32) :=
  (f_M_in h t0 t1 t2).bind fun v1 =>
  if v1 = 0 then
    some (0 : Int32)
  else
    some (1 : Int32)
set_option maxHeartbeats 1000000 in
theorem x_M_isSetting_34 {l : Launch} {D : va_G} {ad : Nat → Nat} {aC : Nat → ClassId} (hf : l.flags = flags0) (hI : Inj ad) {h : HP} {t0 : Int64} {t1 : Int64} {t2 : Int64} {r : Int32}  (e : f_M_isSetting_34 h t0 t1 t2 = some r) : Go l D ad aC (rmk m_M_isSetting) (QM D ad aC m_M_isSetting (.inl (some (.int r))) h) m_M_isSetting 34 [none, none] [.long t2, .long t1, .long t0] h 0 0 := by
  unfold f_M_isSetting_34 at e
  obtain ⟨v1, e2, e⟩ := bd_inv e
  refine Go.callS (M2 := m_M_in) (as := [.long t0, .long t1, .long t2]) (rest := []) (v := some (.int v1)) (h1 := h) (x_M_in hf hI  e2) ws_M_51 (by decide +kernel) rfl rfl ⟨⟨Nat.le_of_ble_eq_true rfl, Nat.le_of_ble_eq_true rfl⟩, ⟨Nat.le_of_ble_eq_true rfl, Nat.le_of_ble_eq_true rfl⟩⟩ (Nat.le_of_ble_eq_true rfl) ?_
  show Go l D ad aC (rmk m_M_isSetting) _ m_M_isSetting 37 [none, none] [.int v1] h 0 0
  refine Go.if_eq (off := 7) (tgt := 44) (by decide +kernel) (by decide) (fun c3 => ?_) (fun c3 => ?_)
  · replace e := ite_t c3 e
    refine Go.run (pc' := 45) [.iconst 0] (ls' := [none, none]) (st' := [.int (0 : Int32)]) (by decide +kernel) rfl rfl ?_
    obtain rfl := Option.some.inj e
    exact Go.zret rfl nar_z0 (by decide) (by decide) (by decide +kernel)
  · replace e := ite_f c3 e
    refine Go.run (pc' := 41) [.iconst 1] (ls' := [none, none]) (st' := [.int (1 : Int32)]) (by decide +kernel) rfl rfl ?_
    refine Go.goto (off := 4) (tgt := 45) (by decide +kernel) (by decide) ?_
    obtain rfl := Option.some.inj e
    exact Go.zret rfl nar_z1 (by decide) (by decide) (by decide +kernel)
def f_M_isSetting_25 (h : HP)  (t0 : Int64) (t1 : Int64) : Option (Int32) :=
  f_M_isSetting_34 h t0 t1 (9 : Int64)
set_option maxHeartbeats 1000000 in
theorem x_M_isSetting_25 {l : Launch} {D : va_G} {ad : Nat → Nat} {aC : Nat → ClassId} (hf : l.flags = flags0) (hI : Inj ad) {h : HP} {t0 : Int64} {t1 : Int64} {r : Int32}  (e : f_M_isSetting_25 h t0 t1 = some r) : Go l D ad aC (rmk m_M_isSetting) (QM D ad aC m_M_isSetting (.inl (some (.int r))) h) m_M_isSetting 25 [none, none] [.long t1, .long t0] h 0 0 := by
  unfold f_M_isSetting_25 at e
  refine Go.ldc2 lo_M_65 (by decide +kernel) ?_
  refine Go.goto (off := 6) (tgt := 34) (by decide +kernel) (by decide) ?_
  exact x_M_isSetting_34 hf hI  e
def f_M_isSetting (h : HP) (x0 : Int32) (x1 : Int32) : Option (Int32) :=
  (f_M_in h x0.toInt64 (0 : Int64) (5 : Int64)).bind fun v1 =>
  if v1 = 0 then
    some (0 : Int32)
  else
    if x0 = (1 : Int32) then
      f_M_isSetting_25 h x1.toInt64 (0 : Int64)
    else
      if x0 = (5 : Int32) then
        f_M_isSetting_25 h x1.toInt64 (0 : Int64)
      else
        f_M_isSetting_34 h x1.toInt64 (0 : Int64) (50 : Int64)
set_option maxHeartbeats 1000000 in
theorem x_M_isSetting {l : Launch} {D : va_G} {ad : Nat → Nat} {aC : Nat → ClassId} (hf : l.flags = flags0) (hI : Inj ad) {h : HP} {x0 : Int32} {x1 : Int32} {r : Int32}  (e : f_M_isSetting h x0 x1 = some r) : CT l D ad aC m_M_isSetting [.int x0, .int x1] h (.inl (some (.int r))) h := by
  refine CT.ofGo (by decide +kernel) rfl (Nat.le_of_ble_eq_true rfl) ?_
  unfold f_M_isSetting at e
  show Go l D ad aC (rmk m_M_isSetting) _ m_M_isSetting 0 [some (.int x0), some (.int x1)] [] h 0 0
  refine Go.run (pc' := 3) [.iload_n 0, .i2l, .lconst 0] (ls' := [some (.int x0), some (.int x1)]) (st' := [.long (0 : Int64), .long x0.toInt64]) (by decide +kernel) rfl rfl ?_
  refine Go.ldc2 lo_M_63 (by decide +kernel) ?_
  obtain ⟨v1, e2, e⟩ := bd_inv e
  refine Go.callS (M2 := m_M_in) (as := [.long x0.toInt64, .long (0 : Int64), .long (5 : Int64)]) (rest := []) (v := some (.int v1)) (h1 := h) (x_M_in hf hI  e2) ws_M_51 (by decide +kernel) rfl rfl ⟨⟨Nat.le_of_ble_eq_true rfl, Nat.le_of_ble_eq_true rfl⟩, ⟨Nat.le_of_ble_eq_true rfl, Nat.le_of_ble_eq_true rfl⟩⟩ (Nat.le_of_ble_eq_true rfl) ?_
  show Go l D ad aC (rmk m_M_isSetting) _ m_M_isSetting 9 [some (.int x0), some (.int x1)] [.int v1] h 0 0
  refine Go.if_eq (off := 35) (tgt := 44) (by decide +kernel) (by decide) (fun c3 => ?_) (fun c3 => ?_)
  · replace e := ite_t c3 e
    refine Go.run (pc' := 45) [.iconst 0] (ls' := [some (.int x0), some (.int x1)]) (st' := [.int (0 : Int32)]) (by decide +kernel) rfl rfl ?_
    obtain rfl := Option.some.inj e
    exact Go.zret rfl nar_z0 (by decide) (by decide) (by decide +kernel)
  · replace e := ite_f c3 e
    refine Go.run (pc' := 17) [.iload_n 1, .i2l, .lconst 0, .iload_n 0, .iconst 1] (ls' := [some (.int x0), some (.int x1)]) (st' := [.int (1 : Int32), .int x0, .long (0 : Int64), .long x1.toInt64]) (by decide +kernel) rfl rfl ?_
    refine Go.ic_eq (off := 8) (tgt := 25) (by decide +kernel) (by decide) (fun c4 => ?_) (fun c4 => ?_)
    · replace e := ite_t c4 e
      refine Go.wk' (wkn (wkn wk0)) ?_
      exact x_M_isSetting_25 hf hI  e
    · replace e := ite_f c4 e
      refine Go.run (pc' := 22) [.iload_n 0, .iconst 5] (ls' := [some (.int x0), some (.int x1)]) (st' := [.int (5 : Int32), .int x0, .long (0 : Int64), .long x1.toInt64]) (by decide +kernel) rfl rfl ?_
      refine Go.ic_ne (off := 9) (tgt := 31) (by decide +kernel) (by decide) (fun c5 => ?_) (fun c5 => ?_)
      · replace e := ite_f c5 e
        refine Go.ldc2 lo_M_69 (by decide +kernel) ?_
        refine Go.wk' (wkn (wkn wk0)) ?_
        exact x_M_isSetting_34 hf hI  e
      · replace e := ite_t c5 e
        refine Go.wk' (wkn (wkn wk0)) ?_
        exact x_M_isSetting_25 hf hI  e
def f_M_spot (h : HP) (x0 : Int32) : Option (Int32) :=
  some ((124 : Int32) + ((6 : Int32) * x0))
set_option maxHeartbeats 1000000 in
theorem x_M_spot {l : Launch} {D : va_G} {ad : Nat → Nat} {aC : Nat → ClassId} (hf : l.flags = flags0) (hI : Inj ad) {h : HP} {x0 : Int32} {r : Int32}  (e : f_M_spot h x0 = some r) : CT l D ad aC m_M_spot [.int x0] h (.inl (some (.int r))) h := by
  refine CT.ofGo (by decide +kernel) rfl (Nat.le_of_ble_eq_true rfl) ?_
  unfold f_M_spot at e
  show Go l D ad aC (rmk m_M_spot) _ m_M_spot 0 [some (.int x0)] [] h 0 0
  refine Go.run (pc' := 7) [.bipush (124), .bipush (6), .iload_n 0, .imul, .iadd] (ls' := [some (.int x0)]) (st' := [.int ((124 : Int32) + ((6 : Int32) * x0))]) (by decide +kernel) rfl rfl ?_
  obtain rfl := Option.some.inj e
  exact Go.iret rfl (by decide) (by decide) (by decide +kernel)
def f_M_stands (h : HP) (a0 : Nat) (x1 : Int32) : Option (Int32) :=
  (f_M_spot h x1).bind fun v1 =>
  if ib (v1 + (3 : Int32)) 196 = true then
  if (h a0 (v1 + (3 : Int32)).toNatClampNeg) = (-1 : Int32) then
    some (0 : Int32)
  else
    some (1 : Int32)
  else none
set_option maxHeartbeats 1000000 in
theorem x_M_stands {l : Launch} {D : va_G} {ad : Nat → Nat} {aC : Nat → ClassId} (hf : l.flags = flags0) (hI : Inj ad) {h : HP} {a0 : Nat} {x1 : Int32} {r : Int32} (k0 : knd a0 = 10) (q0 : alen a0 = 196) (e : f_M_stands h a0 x1 = some r) : CT l D ad aC m_M_stands [.ref a0, .int x1] h (.inl (some (.int r))) h := by
  refine CT.ofGo (by decide +kernel) rfl (Nat.le_of_ble_eq_true rfl) ?_
  unfold f_M_stands at e
  show Go l D ad aC (rmk m_M_stands) _ m_M_stands 0 [some (.ref a0), some (.int x1)] [] h 0 0
  refine Go.run (pc' := 2) [.aload_n 0, .iload_n 1] (ls' := [some (.ref a0), some (.int x1)]) (st' := [.int x1, .ref a0]) (by decide +kernel) rfl rfl ?_
  obtain ⟨v1, e2, e⟩ := bd_inv e
  refine Go.callS (M2 := m_M_spot) (as := [.int x1]) (rest := [.ref a0]) (v := some (.int v1)) (h1 := h) (x_M_spot hf hI  e2) ws_M_71 (by decide +kernel) rfl rfl ⟨⟨Nat.le_of_ble_eq_true rfl, Nat.le_of_ble_eq_true rfl⟩, ⟨Nat.le_of_ble_eq_true rfl, Nat.le_of_ble_eq_true rfl⟩⟩ (Nat.le_of_ble_eq_true rfl) ?_
  show Go l D ad aC (rmk m_M_stands) _ m_M_stands 5 [some (.ref a0), some (.int x1)] [.int v1, .ref a0] h 0 0
  refine Go.run (pc' := 7) [.iconst 3, .iadd] (ls' := [some (.ref a0), some (.int x1)]) (st' := [.int (v1 + (3 : Int32)), .ref a0]) (by decide +kernel) rfl rfl ?_
  obtain ⟨g3, e⟩ := gd_inv e
  refine Go.iald k0 q0 g3 (by decide +kernel) ?_
  refine Go.run (pc' := 9) [.iconst (-1)] (ls' := [some (.ref a0), some (.int x1)]) (st' := [.int (-1 : Int32), .int (h a0 (v1 + (3 : Int32)).toNatClampNeg)]) (by decide +kernel) rfl rfl ?_
  refine Go.ic_eq (off := 7) (tgt := 16) (by decide +kernel) (by decide) (fun c4 => ?_) (fun c4 => ?_)
  · replace e := ite_t c4 e
    refine Go.run (pc' := 17) [.iconst 0] (ls' := [some (.ref a0), some (.int x1)]) (st' := [.int (0 : Int32)]) (by decide +kernel) rfl rfl ?_
    obtain rfl := Option.some.inj e
    exact Go.zret rfl nar_z0 (by decide) (by decide) (by decide +kernel)
  · replace e := ite_f c4 e
    refine Go.run (pc' := 13) [.iconst 1] (ls' := [some (.ref a0), some (.int x1)]) (st' := [.int (1 : Int32)]) (by decide +kernel) rfl rfl ?_
    refine Go.goto (off := 4) (tgt := 17) (by decide +kernel) (by decide) ?_
    obtain rfl := Option.some.inj e
    exact Go.zret rfl nar_z1 (by decide) (by decide) (by decide +kernel)
def f_M_size (h : HP) (a0 : Nat) (x1 : Int32) : Option (Int32) :=
  if ib ((31 : Int32) * x1) 196 = true then
  some (h a0 ((31 : Int32) * x1).toNatClampNeg)
  else none
set_option maxHeartbeats 1000000 in
theorem x_M_size {l : Launch} {D : va_G} {ad : Nat → Nat} {aC : Nat → ClassId} (hf : l.flags = flags0) (hI : Inj ad) {h : HP} {a0 : Nat} {x1 : Int32} {r : Int32} (k0 : knd a0 = 10) (q0 : alen a0 = 196) (e : f_M_size h a0 x1 = some r) : CT l D ad aC m_M_size [.ref a0, .int x1] h (.inl (some (.int r))) h := by
  refine CT.ofGo (by decide +kernel) rfl (Nat.le_of_ble_eq_true rfl) ?_
  unfold f_M_size at e
  show Go l D ad aC (rmk m_M_size) _ m_M_size 0 [some (.ref a0), some (.int x1)] [] h 0 0
  refine Go.run (pc' := 5) [.aload_n 0, .bipush (31), .iload_n 1, .imul] (ls' := [some (.ref a0), some (.int x1)]) (st' := [.int ((31 : Int32) * x1), .ref a0]) (by decide +kernel) rfl rfl ?_
  obtain ⟨g1, e⟩ := gd_inv e
  refine Go.iald k0 q0 g1 (by decide +kernel) ?_
  obtain rfl := Option.some.inj e
  exact Go.iret rfl (by decide) (by decide) (by decide +kernel)
def f_M_plugs (h : HP) (a0 : Nat) (x1 : Int32) (x2 : Int32) : Option (Int32) :=
  if ib ((((31 : Int32) * x1) + (1 : Int32)) + x2) 196 = true then
  some (h a0 ((((31 : Int32) * x1) + (1 : Int32)) + x2).toNatClampNeg)
  else none
set_option maxHeartbeats 1000000 in
theorem x_M_plugs {l : Launch} {D : va_G} {ad : Nat → Nat} {aC : Nat → ClassId} (hf : l.flags = flags0) (hI : Inj ad) {h : HP} {a0 : Nat} {x1 : Int32} {x2 : Int32} {r : Int32} (k0 : knd a0 = 10) (q0 : alen a0 = 196) (e : f_M_plugs h a0 x1 x2 = some r) : CT l D ad aC m_M_plugs [.ref a0, .int x1, .int x2] h (.inl (some (.int r))) h := by
  refine CT.ofGo (by decide +kernel) rfl (Nat.le_of_ble_eq_true rfl) ?_
  unfold f_M_plugs at e
  show Go l D ad aC (rmk m_M_plugs) _ m_M_plugs 0 [some (.ref a0), some (.int x1), some (.int x2)] [] h 0 0
  refine Go.run (pc' := 9) [.aload_n 0, .bipush (31), .iload_n 1, .imul, .iconst 1, .iadd, .iload_n 2, .iadd] (ls' := [some (.ref a0), some (.int x1), some (.int x2)]) (st' := [.int ((((31 : Int32) * x1) + (1 : Int32)) + x2), .ref a0]) (by decide +kernel) rfl rfl ?_
  obtain ⟨g1, e⟩ := gd_inv e
  refine Go.iald k0 q0 g1 (by decide +kernel) ?_
  obtain rfl := Option.some.inj e
  exact Go.iret rfl (by decide) (by decide) (by decide +kernel)
def f_M_standsAt_56 (h : HP) (k2_ : Nat → Int32 → Int32 → Int32 → Option (Int32)) (a0 : Nat) (x1 : Int32) (x2 : Int32) (x3 : Int32) : Option (Int32) :=
  k2_ a0 x1 x2 (x3 + (1 : Int32))
set_option maxHeartbeats 1000000 in
theorem x_M_standsAt_56 {l : Launch} {D : va_G} {ad : Nat → Nat} {aC : Nat → ClassId} (hf : l.flags = flags0) (hI : Inj ad) {h : HP} {k2_ : Nat → Int32 → Int32 → Int32 → Option (Int32)} (K2_ : ∀ {a0 : Nat} {x1 : Int32} {x2 : Int32} {x3 : Int32} {r : Int32}, knd a0 = 10 → alen a0 = 196 → k2_ a0 x1 x2 x3 = some r → Go l D ad aC (rmk m_M_standsAt) (QM D ad aC m_M_standsAt (.inl (some (.int r))) h) m_M_standsAt 2 [some (.ref a0), some (.int x1), some (.int x2), some (.int x3), none] [] h 0 0) {a0 : Nat} {x1 : Int32} {x2 : Int32} {x3 : Int32} {r : Int32} (k0 : knd a0 = 10) (q0 : alen a0 = 196) (e : f_M_standsAt_56 h k2_ a0 x1 x2 x3 = some r) : Go l D ad aC (rmk m_M_standsAt) (QM D ad aC m_M_standsAt (.inl (some (.int r))) h) m_M_standsAt 56 [some (.ref a0), some (.int x1), some (.int x2), some (.int x3), none] [] h 0 0 := by
  unfold f_M_standsAt_56 at e
  refine Go.run (pc' := 59) [.iinc 3 (1)] (ls' := [some (.ref a0), some (.int x1), some (.int x2), some (.int (x3 + (1 : Int32))), none]) (st' := []) (by decide +kernel) rfl rfl ?_
  refine Go.goto (off := -57) (tgt := 2) (by decide +kernel) (by decide) ?_
  exact K2_ k0 q0 e
def f_M_standsAt_2 (h : HP)  : Nat → Nat → Int32 → Int32 → Int32 → Option (Int32)
  | 0, _, _, _, _ => none
  | n + 1, a0, x1, x2, x3 =>
    if ib (185 : Int32) 196 = true then
    if (h a0 (185 : Int32).toNatClampNeg) ≤ x3 then
      some (-1 : Int32)
    else
      (f_M_spot h x3).bind fun v3 =>
      if ib (v3 + (3 : Int32)) 196 = true then
      if (h a0 (v3 + (3 : Int32)).toNatClampNeg) = x1 then
        if ib (v3 + (4 : Int32)) 196 = true then
        if x2 < (h a0 (v3 + (4 : Int32)).toNatClampNeg) then
          f_M_standsAt_56 h (f_M_standsAt_2 h n) a0 x1 x2 x3
        else
          if ib (v3 + (4 : Int32)) 196 = true then
          if ib (v3 + (1 : Int32)) 196 = true then
          if ((h a0 (v3 + (4 : Int32)).toNatClampNeg) + (h a0 (v3 + (1 : Int32)).toNatClampNeg)) ≤ x2 then
            f_M_standsAt_56 h (f_M_standsAt_2 h n) a0 x1 x2 x3
          else
            some x3
          else none
          else none
        else none
      else
        f_M_standsAt_56 h (f_M_standsAt_2 h n) a0 x1 x2 x3
      else none
    else none
set_option maxHeartbeats 1000000 in
theorem x_M_standsAt_2 {l : Launch} {D : va_G} {ad : Nat → Nat} {aC : Nat → ClassId} (hf : l.flags = flags0) (hI : Inj ad) {h : HP} : ∀ (n : Nat) {a0 : Nat} {x1 : Int32} {x2 : Int32} {x3 : Int32} {r : Int32}, knd a0 = 10 → alen a0 = 196 → f_M_standsAt_2 h n a0 x1 x2 x3 = some r → Go l D ad aC (rmk m_M_standsAt) (QM D ad aC m_M_standsAt (.inl (some (.int r))) h) m_M_standsAt 2 [some (.ref a0), some (.int x1), some (.int x2), some (.int x3), none] [] h 0 0 := by
  intro n
  induction n with
  | zero => intro a0 x1 x2 x3 r k0 q0 e; exact no_none e
  | succ n ih =>
    intro a0 x1 x2 x3 r k0 q0 e
    rw [f_M_standsAt_2] at e
    refine Go.run (pc' := 7) [.iload_n 3, .aload_n 0, .sipush (185)] (ls' := [some (.ref a0), some (.int x1), some (.int x2), some (.int x3), none]) (st' := [.int (185 : Int32), .ref a0, .int x3]) (by decide +kernel) rfl rfl ?_
    obtain ⟨g1, e⟩ := gd_inv e
    refine Go.iald k0 q0 g1 (by decide +kernel) ?_
    refine Go.ic_ge (off := 54) (tgt := 62) (by decide +kernel) (by decide) (fun c2 => ?_) (fun c2 => ?_)
    · replace e := ite_t c2 e
      refine Go.run (pc' := 63) [.iconst (-1)] (ls' := [some (.ref a0), some (.int x1), some (.int x2), some (.int x3), none]) (st' := [.int (-1 : Int32)]) (by decide +kernel) rfl rfl ?_
      obtain rfl := Option.some.inj e
      exact Go.iret rfl (by decide) (by decide) (by decide +kernel)
    · replace e := ite_f c2 e
      refine Go.run (pc' := 12) [.iload_n 3] (ls' := [some (.ref a0), some (.int x1), some (.int x2), some (.int x3), none]) (st' := [.int x3]) (by decide +kernel) rfl rfl ?_
      obtain ⟨v3, e4, e⟩ := bd_inv e
      refine Go.callS (M2 := m_M_spot) (as := [.int x3]) (rest := []) (v := some (.int v3)) (h1 := h) (x_M_spot hf hI  e4) ws_M_71 (by decide +kernel) rfl rfl ⟨⟨Nat.le_of_ble_eq_true rfl, Nat.le_of_ble_eq_true rfl⟩, ⟨Nat.le_of_ble_eq_true rfl, Nat.le_of_ble_eq_true rfl⟩⟩ (Nat.le_of_ble_eq_true rfl) ?_
      show Go l D ad aC (rmk m_M_standsAt) _ m_M_standsAt 15 [some (.ref a0), some (.int x1), some (.int x2), some (.int x3), none] [.int v3] h 0 0
      refine Go.run (pc' := 22) [.istore 4, .aload_n 0, .iload 4, .iconst 3, .iadd] (ls' := [some (.ref a0), some (.int x1), some (.int x2), some (.int x3), some (.int v3)]) (st' := [.int (v3 + (3 : Int32)), .ref a0]) (by decide +kernel) rfl rfl ?_
      obtain ⟨g5, e⟩ := gd_inv e
      refine Go.iald k0 q0 g5 (by decide +kernel) ?_
      refine Go.run (pc' := 24) [.iload_n 1] (ls' := [some (.ref a0), some (.int x1), some (.int x2), some (.int x3), some (.int v3)]) (st' := [.int x1, .int (h a0 (v3 + (3 : Int32)).toNatClampNeg)]) (by decide +kernel) rfl rfl ?_
      refine Go.ic_ne (off := 32) (tgt := 56) (by decide +kernel) (by decide) (fun c6 => ?_) (fun c6 => ?_)
      · replace e := ite_f c6 e
        refine Go.wk' (wks (wks (wks (wks (wkn wk0))))) ?_
        exact x_M_standsAt_56 hf hI (fun kk0 qq0 e => ih kk0 qq0 e) k0 q0 e
      · replace e := ite_t c6 e
        refine Go.run (pc' := 33) [.iload_n 2, .aload_n 0, .iload 4, .iconst 4, .iadd] (ls' := [some (.ref a0), some (.int x1), some (.int x2), some (.int x3), some (.int v3)]) (st' := [.int (v3 + (4 : Int32)), .ref a0, .int x2]) (by decide +kernel) rfl rfl ?_
        obtain ⟨g7, e⟩ := gd_inv e
        refine Go.iald k0 q0 g7 (by decide +kernel) ?_
        refine Go.ic_lt (off := 22) (tgt := 56) (by decide +kernel) (by decide) (fun c8 => ?_) (fun c8 => ?_)
        · replace e := ite_t c8 e
          refine Go.wk' (wks (wks (wks (wks (wkn wk0))))) ?_
          exact x_M_standsAt_56 hf hI (fun kk0 qq0 e => ih kk0 qq0 e) k0 q0 e
        · replace e := ite_f c8 e
          refine Go.run (pc' := 43) [.iload_n 2, .aload_n 0, .iload 4, .iconst 4, .iadd] (ls' := [some (.ref a0), some (.int x1), some (.int x2), some (.int x3), some (.int v3)]) (st' := [.int (v3 + (4 : Int32)), .ref a0, .int x2]) (by decide +kernel) rfl rfl ?_
          obtain ⟨g9, e⟩ := gd_inv e
          refine Go.iald k0 q0 g9 (by decide +kernel) ?_
          refine Go.run (pc' := 49) [.aload_n 0, .iload 4, .iconst 1, .iadd] (ls' := [some (.ref a0), some (.int x1), some (.int x2), some (.int x3), some (.int v3)]) (st' := [.int (v3 + (1 : Int32)), .ref a0, .int (h a0 (v3 + (4 : Int32)).toNatClampNeg), .int x2]) (by decide +kernel) rfl rfl ?_
          obtain ⟨g10, e⟩ := gd_inv e
          refine Go.iald k0 q0 g10 (by decide +kernel) ?_
          refine Go.run (pc' := 51) [.iadd] (ls' := [some (.ref a0), some (.int x1), some (.int x2), some (.int x3), some (.int v3)]) (st' := [.int ((h a0 (v3 + (4 : Int32)).toNatClampNeg) + (h a0 (v3 + (1 : Int32)).toNatClampNeg)), .int x2]) (by decide +kernel) rfl rfl ?_
          refine Go.ic_ge (off := 5) (tgt := 56) (by decide +kernel) (by decide) (fun c11 => ?_) (fun c11 => ?_)
          · replace e := ite_t c11 e
            refine Go.wk' (wks (wks (wks (wks (wkn wk0))))) ?_
            exact x_M_standsAt_56 hf hI (fun kk0 qq0 e => ih kk0 qq0 e) k0 q0 e
          · replace e := ite_f c11 e
            refine Go.run (pc' := 55) [.iload_n 3] (ls' := [some (.ref a0), some (.int x1), some (.int x2), some (.int x3), some (.int v3)]) (st' := [.int x3]) (by decide +kernel) rfl rfl ?_
            obtain rfl := Option.some.inj e
            exact Go.iret rfl (by decide) (by decide) (by decide +kernel)
def f_M_standsAt (h : HP) (a0 : Nat) (x1 : Int32) (x2 : Int32) : Option (Int32) :=
  f_M_standsAt_2 h 4096 a0 x1 x2 (0 : Int32)
set_option maxHeartbeats 1000000 in
theorem x_M_standsAt {l : Launch} {D : va_G} {ad : Nat → Nat} {aC : Nat → ClassId} (hf : l.flags = flags0) (hI : Inj ad) {h : HP} {a0 : Nat} {x1 : Int32} {x2 : Int32} {r : Int32} (k0 : knd a0 = 10) (q0 : alen a0 = 196) (e : f_M_standsAt h a0 x1 x2 = some r) : CT l D ad aC m_M_standsAt [.ref a0, .int x1, .int x2] h (.inl (some (.int r))) h := by
  refine CT.ofGo (by decide +kernel) rfl (Nat.le_of_ble_eq_true rfl) ?_
  unfold f_M_standsAt at e
  show Go l D ad aC (rmk m_M_standsAt) _ m_M_standsAt 0 [some (.ref a0), some (.int x1), some (.int x2), none, none] [] h 0 0
  refine Go.run (pc' := 2) [.iconst 0, .istore_n 3] (ls' := [some (.ref a0), some (.int x1), some (.int x2), some (.int (0 : Int32)), none]) (st' := []) (by decide +kernel) rfl rfl ?_
  exact x_M_standsAt_2 hf hI 4096 k0 q0 e
def f_M_fits_81 (h : HP) (k28_ : Nat → Int32 → Int32 → Int32 → Int32 → Int32 → Int32 → Option (Int32)) (a0 : Nat) (x1 : Int32) (x2 : Int32) (x3 : Int32) (x4 : Int32) (x6 : Int32) (s0 : Int32) : Option (Int32) :=
  k28_ a0 x1 x2 x3 x4 s0 (x6 + (1 : Int32))
set_option maxHeartbeats 1000000 in
theorem x_M_fits_81 {l : Launch} {D : va_G} {ad : Nat → Nat} {aC : Nat → ClassId} (hf : l.flags = flags0) (hI : Inj ad) {h : HP} {k28_ : Nat → Int32 → Int32 → Int32 → Int32 → Int32 → Int32 → Option (Int32)} (K28_ : ∀ {a0 : Nat} {x1 : Int32} {x2 : Int32} {x3 : Int32} {x4 : Int32} {x5 : Int32} {x6 : Int32} {r : Int32}, knd a0 = 10 → alen a0 = 196 → k28_ a0 x1 x2 x3 x4 x5 x6 = some r → Go l D ad aC (rmk m_M_fits) (QM D ad aC m_M_fits (.inl (some (.int r))) h) m_M_fits 28 [some (.ref a0), some (.int x1), some (.int x2), some (.int x3), some (.int x4), some (.int x5), some (.int x6), none] [] h 0 0) {a0 : Nat} {x1 : Int32} {x2 : Int32} {x3 : Int32} {x4 : Int32} {x6 : Int32} {s0 : Int32} {r : Int32} (k0 : knd a0 = 10) (q0 : alen a0 = 196) (e : f_M_fits_81 h k28_ a0 x1 x2 x3 x4 x6 s0 = some r) : Go l D ad aC (rmk m_M_fits) (QM D ad aC m_M_fits (.inl (some (.int r))) h) m_M_fits 81 [some (.ref a0), some (.int x1), some (.int x2), some (.int x3), some (.int x4), none, some (.int x6), none] [.int s0] h 0 0 := by
  unfold f_M_fits_81 at e
  refine Go.run (pc' := 86) [.istore 5, .iinc 6 (1)] (ls' := [some (.ref a0), some (.int x1), some (.int x2), some (.int x3), some (.int x4), some (.int s0), some (.int (x6 + (1 : Int32))), none]) (st' := []) (by decide +kernel) rfl rfl ?_
  refine Go.goto (off := -58) (tgt := 28) (by decide +kernel) (by decide) ?_
  exact K28_ k0 q0 e
def f_M_fits_76 (h : HP) (k28_ : Nat → Int32 → Int32 → Int32 → Int32 → Int32 → Int32 → Option (Int32)) (a0 : Nat) (x1 : Int32) (x2 : Int32) (x3 : Int32) (x4 : Int32) (x6 : Int32) : Option (Int32) :=
  f_M_fits_81 h k28_ a0 x1 x2 x3 x4 x6 (1 : Int32)
set_option maxHeartbeats 1000000 in
theorem x_M_fits_76 {l : Launch} {D : va_G} {ad : Nat → Nat} {aC : Nat → ClassId} (hf : l.flags = flags0) (hI : Inj ad) {h : HP} {k28_ : Nat → Int32 → Int32 → Int32 → Int32 → Int32 → Int32 → Option (Int32)} (K28_ : ∀ {a0 : Nat} {x1 : Int32} {x2 : Int32} {x3 : Int32} {x4 : Int32} {x5 : Int32} {x6 : Int32} {r : Int32}, knd a0 = 10 → alen a0 = 196 → k28_ a0 x1 x2 x3 x4 x5 x6 = some r → Go l D ad aC (rmk m_M_fits) (QM D ad aC m_M_fits (.inl (some (.int r))) h) m_M_fits 28 [some (.ref a0), some (.int x1), some (.int x2), some (.int x3), some (.int x4), some (.int x5), some (.int x6), none] [] h 0 0) {a0 : Nat} {x1 : Int32} {x2 : Int32} {x3 : Int32} {x4 : Int32} {x6 : Int32} {r : Int32} (k0 : knd a0 = 10) (q0 : alen a0 = 196) (e : f_M_fits_76 h k28_ a0 x1 x2 x3 x4 x6 = some r) : Go l D ad aC (rmk m_M_fits) (QM D ad aC m_M_fits (.inl (some (.int r))) h) m_M_fits 76 [some (.ref a0), some (.int x1), some (.int x2), some (.int x3), some (.int x4), none, some (.int x6), none] [] h 0 0 := by
  unfold f_M_fits_76 at e
  refine Go.run (pc' := 77) [.iconst 1] (ls' := [some (.ref a0), some (.int x1), some (.int x2), some (.int x3), some (.int x4), none, some (.int x6), none]) (st' := [.int (1 : Int32)]) (by decide +kernel) rfl rfl ?_
  refine Go.goto (off := 4) (tgt := 81) (by decide +kernel) (by decide) ?_
  exact x_M_fits_81 hf hI K28_ k0 q0 e
def f_M_fits_28 (h : HP)  : Nat → Nat → Int32 → Int32 → Int32 → Int32 → Int32 → Int32 → Option (Int32)
  | 0, _, _, _, _, _, _, _ => none
  | n + 1, a0, x1, x2, x3, x4, x5, x6 =>
    (f_M_spot h x1).bind fun v1 =>
    if ib (v1 + (1 : Int32)) 196 = true then
    if (x3 + (h a0 (v1 + (1 : Int32)).toNatClampNeg)) ≤ x6 then
      if isB x5 = true then
      some x5
      else none
    else
      if x5 = 0 then
        if isB x5 = true then
        some x5
        else none
      else
        (f_M_standsAt h a0 x2 x6).bind fun v8 =>
        if v8 = (-1 : Int32) then
          f_M_fits_76 h (f_M_fits_28 h n) a0 x1 x2 x3 x4 x6
        else
          if v8 = x1 then
            f_M_fits_76 h (f_M_fits_28 h n) a0 x1 x2 x3 x4 x6
          else
            if v8 = x4 then
              f_M_fits_76 h (f_M_fits_28 h n) a0 x1 x2 x3 x4 x6
            else
              f_M_fits_81 h (f_M_fits_28 h n) a0 x1 x2 x3 x4 x6 (0 : Int32)
    else none
set_option maxHeartbeats 1000000 in
theorem x_M_fits_28 {l : Launch} {D : va_G} {ad : Nat → Nat} {aC : Nat → ClassId} (hf : l.flags = flags0) (hI : Inj ad) {h : HP} : ∀ (n : Nat) {a0 : Nat} {x1 : Int32} {x2 : Int32} {x3 : Int32} {x4 : Int32} {x5 : Int32} {x6 : Int32} {r : Int32}, knd a0 = 10 → alen a0 = 196 → f_M_fits_28 h n a0 x1 x2 x3 x4 x5 x6 = some r → Go l D ad aC (rmk m_M_fits) (QM D ad aC m_M_fits (.inl (some (.int r))) h) m_M_fits 28 [some (.ref a0), some (.int x1), some (.int x2), some (.int x3), some (.int x4), some (.int x5), some (.int x6), none] [] h 0 0 := by
  intro n
  induction n with
  | zero => intro a0 x1 x2 x3 x4 x5 x6 r k0 q0 e; exact no_none e
  | succ n ih =>
    intro a0 x1 x2 x3 x4 x5 x6 r k0 q0 e
    rw [f_M_fits_28] at e
    refine Go.run (pc' := 33) [.iload 6, .iload_n 3, .aload_n 0, .iload_n 1] (ls' := [some (.ref a0), some (.int x1), some (.int x2), some (.int x3), some (.int x4), some (.int x5), some (.int x6), none]) (st' := [.int x1, .ref a0, .int x3, .int x6]) (by decide +kernel) rfl rfl ?_
    obtain ⟨v1, e2, e⟩ := bd_inv e
    refine Go.callS (M2 := m_M_spot) (as := [.int x1]) (rest := [.ref a0, .int x3, .int x6]) (v := some (.int v1)) (h1 := h) (x_M_spot hf hI  e2) ws_M_71 (by decide +kernel) rfl rfl ⟨⟨Nat.le_of_ble_eq_true rfl, Nat.le_of_ble_eq_true rfl⟩, ⟨Nat.le_of_ble_eq_true rfl, Nat.le_of_ble_eq_true rfl⟩⟩ (Nat.le_of_ble_eq_true rfl) ?_
    show Go l D ad aC (rmk m_M_fits) _ m_M_fits 36 [some (.ref a0), some (.int x1), some (.int x2), some (.int x3), some (.int x4), some (.int x5), some (.int x6), none] [.int v1, .ref a0, .int x3, .int x6] h 0 0
    refine Go.run (pc' := 38) [.iconst 1, .iadd] (ls' := [some (.ref a0), some (.int x1), some (.int x2), some (.int x3), some (.int x4), some (.int x5), some (.int x6), none]) (st' := [.int (v1 + (1 : Int32)), .ref a0, .int x3, .int x6]) (by decide +kernel) rfl rfl ?_
    obtain ⟨g3, e⟩ := gd_inv e
    refine Go.iald k0 q0 g3 (by decide +kernel) ?_
    refine Go.run (pc' := 40) [.iadd] (ls' := [some (.ref a0), some (.int x1), some (.int x2), some (.int x3), some (.int x4), some (.int x5), some (.int x6), none]) (st' := [.int (x3 + (h a0 (v1 + (1 : Int32)).toNatClampNeg)), .int x6]) (by decide +kernel) rfl rfl ?_
    refine Go.ic_ge (off := 49) (tgt := 89) (by decide +kernel) (by decide) (fun c4 => ?_) (fun c4 => ?_)
    · replace e := ite_t c4 e
      refine Go.run (pc' := 91) [.iload 5] (ls' := [some (.ref a0), some (.int x1), some (.int x2), some (.int x3), some (.int x4), some (.int x5), some (.int x6), none]) (st' := [.int x5]) (by decide +kernel) rfl rfl ?_
      obtain ⟨g5, e⟩ := gd_inv e
      obtain rfl := Option.some.inj e
      exact Go.zret rfl (isB_nar g5) (by decide) (by decide) (by decide +kernel)
    · replace e := ite_f c4 e
      refine Go.run (pc' := 45) [.iload 5] (ls' := [some (.ref a0), some (.int x1), some (.int x2), some (.int x3), some (.int x4), some (.int x5), some (.int x6), none]) (st' := [.int x5]) (by decide +kernel) rfl rfl ?_
      refine Go.if_eq (off := 44) (tgt := 89) (by decide +kernel) (by decide) (fun c6 => ?_) (fun c6 => ?_)
      · replace e := ite_t c6 e
        refine Go.run (pc' := 91) [.iload 5] (ls' := [some (.ref a0), some (.int x1), some (.int x2), some (.int x3), some (.int x4), some (.int x5), some (.int x6), none]) (st' := [.int x5]) (by decide +kernel) rfl rfl ?_
        obtain ⟨g7, e⟩ := gd_inv e
        obtain rfl := Option.some.inj e
        exact Go.zret rfl (isB_nar g7) (by decide) (by decide) (by decide +kernel)
      · replace e := ite_f c6 e
        refine Go.run (pc' := 52) [.aload_n 0, .iload_n 2, .iload 6] (ls' := [some (.ref a0), some (.int x1), some (.int x2), some (.int x3), some (.int x4), some (.int x5), some (.int x6), none]) (st' := [.int x6, .int x2, .ref a0]) (by decide +kernel) rfl rfl ?_
        obtain ⟨v8, e9, e⟩ := bd_inv e
        refine Go.callS (M2 := m_M_standsAt) (as := [.ref a0, .int x2, .int x6]) (rest := []) (v := some (.int v8)) (h1 := h) (x_M_standsAt hf hI k0 q0 e9) ws_M_79 (by decide +kernel) rfl rfl ⟨⟨Nat.le_of_ble_eq_true rfl, Nat.le_of_ble_eq_true rfl⟩, ⟨Nat.le_of_ble_eq_true rfl, Nat.le_of_ble_eq_true rfl⟩⟩ (Nat.le_of_ble_eq_true rfl) ?_
        show Go l D ad aC (rmk m_M_fits) _ m_M_fits 55 [some (.ref a0), some (.int x1), some (.int x2), some (.int x3), some (.int x4), some (.int x5), some (.int x6), none] [.int v8] h 0 0
        refine Go.run (pc' := 60) [.istore 7, .iload 7, .iconst (-1)] (ls' := [some (.ref a0), some (.int x1), some (.int x2), some (.int x3), some (.int x4), some (.int x5), some (.int x6), some (.int v8)]) (st' := [.int (-1 : Int32), .int v8]) (by decide +kernel) rfl rfl ?_
        refine Go.ic_eq (off := 16) (tgt := 76) (by decide +kernel) (by decide) (fun c10 => ?_) (fun c10 => ?_)
        · replace e := ite_t c10 e
          refine Go.wk' (wks (wks (wks (wks (wks (wkn (wks (wkn wk0)))))))) ?_
          exact x_M_fits_76 hf hI (fun kk0 qq0 e => ih kk0 qq0 e) k0 q0 e
        · replace e := ite_f c10 e
          refine Go.run (pc' := 66) [.iload 7, .iload_n 1] (ls' := [some (.ref a0), some (.int x1), some (.int x2), some (.int x3), some (.int x4), some (.int x5), some (.int x6), some (.int v8)]) (st' := [.int x1, .int v8]) (by decide +kernel) rfl rfl ?_
          refine Go.ic_eq (off := 10) (tgt := 76) (by decide +kernel) (by decide) (fun c11 => ?_) (fun c11 => ?_)
          · replace e := ite_t c11 e
            refine Go.wk' (wks (wks (wks (wks (wks (wkn (wks (wkn wk0)))))))) ?_
            exact x_M_fits_76 hf hI (fun kk0 qq0 e => ih kk0 qq0 e) k0 q0 e
          · replace e := ite_f c11 e
            refine Go.run (pc' := 73) [.iload 7, .iload 4] (ls' := [some (.ref a0), some (.int x1), some (.int x2), some (.int x3), some (.int x4), some (.int x5), some (.int x6), some (.int v8)]) (st' := [.int x4, .int v8]) (by decide +kernel) rfl rfl ?_
            refine Go.ic_ne (off := 7) (tgt := 80) (by decide +kernel) (by decide) (fun c12 => ?_) (fun c12 => ?_)
            · replace e := ite_f c12 e
              refine Go.run (pc' := 81) [.iconst 0] (ls' := [some (.ref a0), some (.int x1), some (.int x2), some (.int x3), some (.int x4), some (.int x5), some (.int x6), some (.int v8)]) (st' := [.int (0 : Int32)]) (by decide +kernel) rfl rfl ?_
              refine Go.wk' (wks (wks (wks (wks (wks (wkn (wks (wkn wk0)))))))) ?_
              exact x_M_fits_81 hf hI (fun kk0 qq0 e => ih kk0 qq0 e) k0 q0 e
            · replace e := ite_t c12 e
              refine Go.wk' (wks (wks (wks (wks (wks (wkn (wks (wkn wk0)))))))) ?_
              exact x_M_fits_76 hf hI (fun kk0 qq0 e => ih kk0 qq0 e) k0 q0 e
def f_M_fits_23 (h : HP)  (a0 : Nat) (x1 : Int32) (x2 : Int32) (x3 : Int32) (x4 : Int32) (s0 : Int32) : Option (Int32) :=
  f_M_fits_28 h 4096 a0 x1 x2 x3 x4 s0 x3
set_option maxHeartbeats 1000000 in
theorem x_M_fits_23 {l : Launch} {D : va_G} {ad : Nat → Nat} {aC : Nat → ClassId} (hf : l.flags = flags0) (hI : Inj ad) {h : HP} {a0 : Nat} {x1 : Int32} {x2 : Int32} {x3 : Int32} {x4 : Int32} {s0 : Int32} {r : Int32} (k0 : knd a0 = 10) (q0 : alen a0 = 196) (e : f_M_fits_23 h a0 x1 x2 x3 x4 s0 = some r) : Go l D ad aC (rmk m_M_fits) (QM D ad aC m_M_fits (.inl (some (.int r))) h) m_M_fits 23 [some (.ref a0), some (.int x1), some (.int x2), some (.int x3), some (.int x4), none, none, none] [.int s0] h 0 0 := by
  unfold f_M_fits_23 at e
  refine Go.run (pc' := 28) [.istore 5, .iload_n 3, .istore 6] (ls' := [some (.ref a0), some (.int x1), some (.int x2), some (.int x3), some (.int x4), some (.int s0), some (.int x3), none]) (st' := []) (by decide +kernel) rfl rfl ?_
  exact x_M_fits_28 hf hI 4096 k0 q0 e
def f_M_fits (h : HP) (a0 : Nat) (x1 : Int32) (x2 : Int32) (x3 : Int32) (x4 : Int32) : Option (Int32) :=
  (f_M_spot h x1).bind fun v1 =>
  if ib (v1 + (1 : Int32)) 196 = true then
  (f_M_size h a0 x2).bind fun v4 =>
  if v4 < (x3 + (h a0 (v1 + (1 : Int32)).toNatClampNeg)) then
    f_M_fits_23 h a0 x1 x2 x3 x4 (0 : Int32)
  else
    f_M_fits_23 h a0 x1 x2 x3 x4 (1 : Int32)
  else none
set_option maxHeartbeats 1000000 in
theorem x_M_fits {l : Launch} {D : va_G} {ad : Nat → Nat} {aC : Nat → ClassId} (hf : l.flags = flags0) (hI : Inj ad) {h : HP} {a0 : Nat} {x1 : Int32} {x2 : Int32} {x3 : Int32} {x4 : Int32} {r : Int32} (k0 : knd a0 = 10) (q0 : alen a0 = 196) (e : f_M_fits h a0 x1 x2 x3 x4 = some r) : CT l D ad aC m_M_fits [.ref a0, .int x1, .int x2, .int x3, .int x4] h (.inl (some (.int r))) h := by
  refine CT.ofGo (by decide +kernel) rfl (Nat.le_of_ble_eq_true rfl) ?_
  unfold f_M_fits at e
  show Go l D ad aC (rmk m_M_fits) _ m_M_fits 0 [some (.ref a0), some (.int x1), some (.int x2), some (.int x3), some (.int x4), none, none, none] [] h 0 0
  refine Go.run (pc' := 3) [.iload_n 3, .aload_n 0, .iload_n 1] (ls' := [some (.ref a0), some (.int x1), some (.int x2), some (.int x3), some (.int x4), none, none, none]) (st' := [.int x1, .ref a0, .int x3]) (by decide +kernel) rfl rfl ?_
  obtain ⟨v1, e2, e⟩ := bd_inv e
  refine Go.callS (M2 := m_M_spot) (as := [.int x1]) (rest := [.ref a0, .int x3]) (v := some (.int v1)) (h1 := h) (x_M_spot hf hI  e2) ws_M_71 (by decide +kernel) rfl rfl ⟨⟨Nat.le_of_ble_eq_true rfl, Nat.le_of_ble_eq_true rfl⟩, ⟨Nat.le_of_ble_eq_true rfl, Nat.le_of_ble_eq_true rfl⟩⟩ (Nat.le_of_ble_eq_true rfl) ?_
  show Go l D ad aC (rmk m_M_fits) _ m_M_fits 6 [some (.ref a0), some (.int x1), some (.int x2), some (.int x3), some (.int x4), none, none, none] [.int v1, .ref a0, .int x3] h 0 0
  refine Go.run (pc' := 8) [.iconst 1, .iadd] (ls' := [some (.ref a0), some (.int x1), some (.int x2), some (.int x3), some (.int x4), none, none, none]) (st' := [.int (v1 + (1 : Int32)), .ref a0, .int x3]) (by decide +kernel) rfl rfl ?_
  obtain ⟨g3, e⟩ := gd_inv e
  refine Go.iald k0 q0 g3 (by decide +kernel) ?_
  refine Go.run (pc' := 12) [.iadd, .aload_n 0, .iload_n 2] (ls' := [some (.ref a0), some (.int x1), some (.int x2), some (.int x3), some (.int x4), none, none, none]) (st' := [.int x2, .ref a0, .int (x3 + (h a0 (v1 + (1 : Int32)).toNatClampNeg))]) (by decide +kernel) rfl rfl ?_
  obtain ⟨v4, e5, e⟩ := bd_inv e
  refine Go.callS (M2 := m_M_size) (as := [.ref a0, .int x2]) (rest := [.int (x3 + (h a0 (v1 + (1 : Int32)).toNatClampNeg))]) (v := some (.int v4)) (h1 := h) (x_M_size hf hI k0 q0 e5) ws_M_75 (by decide +kernel) rfl rfl ⟨⟨Nat.le_of_ble_eq_true rfl, Nat.le_of_ble_eq_true rfl⟩, ⟨Nat.le_of_ble_eq_true rfl, Nat.le_of_ble_eq_true rfl⟩⟩ (Nat.le_of_ble_eq_true rfl) ?_
  show Go l D ad aC (rmk m_M_fits) _ m_M_fits 15 [some (.ref a0), some (.int x1), some (.int x2), some (.int x3), some (.int x4), none, none, none] [.int v4, .int (x3 + (h a0 (v1 + (1 : Int32)).toNatClampNeg))] h 0 0
  refine Go.ic_gt (off := 7) (tgt := 22) (by decide +kernel) (by decide) (fun c6 => ?_) (fun c6 => ?_)
  · replace e := ite_t c6 e
    refine Go.run (pc' := 23) [.iconst 0] (ls' := [some (.ref a0), some (.int x1), some (.int x2), some (.int x3), some (.int x4), none, none, none]) (st' := [.int (0 : Int32)]) (by decide +kernel) rfl rfl ?_
    exact x_M_fits_23 hf hI k0 q0 e
  · replace e := ite_f c6 e
    refine Go.run (pc' := 19) [.iconst 1] (ls' := [some (.ref a0), some (.int x1), some (.int x2), some (.int x3), some (.int x4), none, none, none]) (st' := [.int (1 : Int32)]) (by decide +kernel) rfl rfl ?_
    refine Go.goto (off := 4) (tgt := 23) (by decide +kernel) (by decide) ?_
    exact x_M_fits_23 hf hI k0 q0 e
def f_M_away (h : HP) (a0 : Nat) (x1 : Int32) (x2 : Int32) : Option (Int32) :=
  (f_M_spot h x1).bind fun v1 =>
  if ib (v1 + (4 : Int32)) 196 = true then
  (f_M_spot h x1).bind fun v4 =>
  if ib (v4 + (1 : Int32)) 196 = true then
  if (h a0 (v1 + (4 : Int32)).toNatClampNeg) ≤ x2 then
    if x2 ≤ (((h a0 (v1 + (4 : Int32)).toNatClampNeg) + (h a0 (v4 + (1 : Int32)).toNatClampNeg)) - (1 : Int32)) then
      some (0 : Int32)
    else
      some (x2 - (((h a0 (v1 + (4 : Int32)).toNatClampNeg) + (h a0 (v4 + (1 : Int32)).toNatClampNeg)) - (1 : Int32)))
  else
    some ((h a0 (v1 + (4 : Int32)).toNatClampNeg) - x2)
  else none
  else none
set_option maxHeartbeats 1000000 in
theorem x_M_away {l : Launch} {D : va_G} {ad : Nat → Nat} {aC : Nat → ClassId} (hf : l.flags = flags0) (hI : Inj ad) {h : HP} {a0 : Nat} {x1 : Int32} {x2 : Int32} {r : Int32} (k0 : knd a0 = 10) (q0 : alen a0 = 196) (e : f_M_away h a0 x1 x2 = some r) : CT l D ad aC m_M_away [.ref a0, .int x1, .int x2] h (.inl (some (.int r))) h := by
  refine CT.ofGo (by decide +kernel) rfl (Nat.le_of_ble_eq_true rfl) ?_
  unfold f_M_away at e
  show Go l D ad aC (rmk m_M_away) _ m_M_away 0 [some (.ref a0), some (.int x1), some (.int x2), none, none] [] h 0 0
  refine Go.run (pc' := 2) [.aload_n 0, .iload_n 1] (ls' := [some (.ref a0), some (.int x1), some (.int x2), none, none]) (st' := [.int x1, .ref a0]) (by decide +kernel) rfl rfl ?_
  obtain ⟨v1, e2, e⟩ := bd_inv e
  refine Go.callS (M2 := m_M_spot) (as := [.int x1]) (rest := [.ref a0]) (v := some (.int v1)) (h1 := h) (x_M_spot hf hI  e2) ws_M_71 (by decide +kernel) rfl rfl ⟨⟨Nat.le_of_ble_eq_true rfl, Nat.le_of_ble_eq_true rfl⟩, ⟨Nat.le_of_ble_eq_true rfl, Nat.le_of_ble_eq_true rfl⟩⟩ (Nat.le_of_ble_eq_true rfl) ?_
  show Go l D ad aC (rmk m_M_away) _ m_M_away 5 [some (.ref a0), some (.int x1), some (.int x2), none, none] [.int v1, .ref a0] h 0 0
  refine Go.run (pc' := 7) [.iconst 4, .iadd] (ls' := [some (.ref a0), some (.int x1), some (.int x2), none, none]) (st' := [.int (v1 + (4 : Int32)), .ref a0]) (by decide +kernel) rfl rfl ?_
  obtain ⟨g3, e⟩ := gd_inv e
  refine Go.iald k0 q0 g3 (by decide +kernel) ?_
  refine Go.run (pc' := 12) [.istore_n 3, .iload_n 3, .aload_n 0, .iload_n 1] (ls' := [some (.ref a0), some (.int x1), some (.int x2), some (.int (h a0 (v1 + (4 : Int32)).toNatClampNeg)), none]) (st' := [.int x1, .ref a0, .int (h a0 (v1 + (4 : Int32)).toNatClampNeg)]) (by decide +kernel) rfl rfl ?_
  obtain ⟨v4, e5, e⟩ := bd_inv e
  refine Go.callS (M2 := m_M_spot) (as := [.int x1]) (rest := [.ref a0, .int (h a0 (v1 + (4 : Int32)).toNatClampNeg)]) (v := some (.int v4)) (h1 := h) (x_M_spot hf hI  e5) ws_M_71 (by decide +kernel) rfl rfl ⟨⟨Nat.le_of_ble_eq_true rfl, Nat.le_of_ble_eq_true rfl⟩, ⟨Nat.le_of_ble_eq_true rfl, Nat.le_of_ble_eq_true rfl⟩⟩ (Nat.le_of_ble_eq_true rfl) ?_
  show Go l D ad aC (rmk m_M_away) _ m_M_away 15 [some (.ref a0), some (.int x1), some (.int x2), some (.int (h a0 (v1 + (4 : Int32)).toNatClampNeg)), none] [.int v4, .ref a0, .int (h a0 (v1 + (4 : Int32)).toNatClampNeg)] h 0 0
  refine Go.run (pc' := 17) [.iconst 1, .iadd] (ls' := [some (.ref a0), some (.int x1), some (.int x2), some (.int (h a0 (v1 + (4 : Int32)).toNatClampNeg)), none]) (st' := [.int (v4 + (1 : Int32)), .ref a0, .int (h a0 (v1 + (4 : Int32)).toNatClampNeg)]) (by decide +kernel) rfl rfl ?_
  obtain ⟨g6, e⟩ := gd_inv e
  refine Go.iald k0 q0 g6 (by decide +kernel) ?_
  refine Go.run (pc' := 25) [.iadd, .iconst 1, .isub, .istore 4, .iload_n 2, .iload_n 3] (ls' := [some (.ref a0), some (.int x1), some (.int x2), some (.int (h a0 (v1 + (4 : Int32)).toNatClampNeg)), some (.int (((h a0 (v1 + (4 : Int32)).toNatClampNeg) + (h a0 (v4 + (1 : Int32)).toNatClampNeg)) - (1 : Int32)))]) (st' := [.int (h a0 (v1 + (4 : Int32)).toNatClampNeg), .int x2]) (by decide +kernel) rfl rfl ?_
  refine Go.ic_ge (off := 9) (tgt := 34) (by decide +kernel) (by decide) (fun c7 => ?_) (fun c7 => ?_)
  · replace e := ite_t c7 e
    refine Go.run (pc' := 37) [.iload_n 2, .iload 4] (ls' := [some (.ref a0), some (.int x1), some (.int x2), some (.int (h a0 (v1 + (4 : Int32)).toNatClampNeg)), some (.int (((h a0 (v1 + (4 : Int32)).toNatClampNeg) + (h a0 (v4 + (1 : Int32)).toNatClampNeg)) - (1 : Int32)))]) (st' := [.int (((h a0 (v1 + (4 : Int32)).toNatClampNeg) + (h a0 (v4 + (1 : Int32)).toNatClampNeg)) - (1 : Int32)), .int x2]) (by decide +kernel) rfl rfl ?_
    refine Go.ic_le (off := 10) (tgt := 47) (by decide +kernel) (by decide) (fun c8 => ?_) (fun c8 => ?_)
    · replace e := ite_t c8 e
      refine Go.run (pc' := 48) [.iconst 0] (ls' := [some (.ref a0), some (.int x1), some (.int x2), some (.int (h a0 (v1 + (4 : Int32)).toNatClampNeg)), some (.int (((h a0 (v1 + (4 : Int32)).toNatClampNeg) + (h a0 (v4 + (1 : Int32)).toNatClampNeg)) - (1 : Int32)))]) (st' := [.int (0 : Int32)]) (by decide +kernel) rfl rfl ?_
      obtain rfl := Option.some.inj e
      exact Go.iret rfl (by decide) (by decide) (by decide +kernel)
    · replace e := ite_f c8 e
      refine Go.run (pc' := 44) [.iload_n 2, .iload 4, .isub] (ls' := [some (.ref a0), some (.int x1), some (.int x2), some (.int (h a0 (v1 + (4 : Int32)).toNatClampNeg)), some (.int (((h a0 (v1 + (4 : Int32)).toNatClampNeg) + (h a0 (v4 + (1 : Int32)).toNatClampNeg)) - (1 : Int32)))]) (st' := [.int (x2 - (((h a0 (v1 + (4 : Int32)).toNatClampNeg) + (h a0 (v4 + (1 : Int32)).toNatClampNeg)) - (1 : Int32)))]) (by decide +kernel) rfl rfl ?_
      refine Go.goto (off := 4) (tgt := 48) (by decide +kernel) (by decide) ?_
      obtain rfl := Option.some.inj e
      exact Go.iret rfl (by decide) (by decide) (by decide +kernel)
  · replace e := ite_f c7 e
    refine Go.run (pc' := 31) [.iload_n 3, .iload_n 2, .isub] (ls' := [some (.ref a0), some (.int x1), some (.int x2), some (.int (h a0 (v1 + (4 : Int32)).toNatClampNeg)), some (.int (((h a0 (v1 + (4 : Int32)).toNatClampNeg) + (h a0 (v4 + (1 : Int32)).toNatClampNeg)) - (1 : Int32)))]) (st' := [.int ((h a0 (v1 + (4 : Int32)).toNatClampNeg) - x2)]) (by decide +kernel) rfl rfl ?_
    refine Go.goto (off := 17) (tgt := 48) (by decide +kernel) (by decide) ?_
    obtain rfl := Option.some.inj e
    exact Go.iret rfl (by decide) (by decide) (by decide +kernel)
def f_M_nearest_104 (h : HP) (k15_ : Nat → Nat → Int32 → Int32 → Int32 → Int32 → Option (Int32)) (a0 : Nat) (a1 : Nat) (x2 : Int32) (x3 : Int32) (x5 : Int32) (s0 : Int32) : Option (Int32) :=
  k15_ a0 a1 x2 x3 s0 (x5 + (1 : Int32))
set_option maxHeartbeats 1000000 in
theorem x_M_nearest_104 {l : Launch} {D : va_G} {ad : Nat → Nat} {aC : Nat → ClassId} (hf : l.flags = flags0) (hI : Inj ad) {h : HP} {k15_ : Nat → Nat → Int32 → Int32 → Int32 → Int32 → Option (Int32)} (K15_ : ∀ {a0 : Nat} {a1 : Nat} {x2 : Int32} {x3 : Int32} {x4 : Int32} {x5 : Int32} {r : Int32}, knd a0 = 8 → knd a1 = 10 → alen a1 = 196 → k15_ a0 a1 x2 x3 x4 x5 = some r → Go l D ad aC (rmk m_M_nearest) (QM D ad aC m_M_nearest (.inl (some (.int r))) h) m_M_nearest 15 [some (.ref a0), some (.ref a1), some (.int x2), some (.int x3), some (.int x4), some (.int x5), none] [] h 0 0) {a0 : Nat} {a1 : Nat} {x2 : Int32} {x3 : Int32} {x5 : Int32} {s0 : Int32} {r : Int32} (k0 : knd a0 = 8) (k1 : knd a1 = 10) (q1 : alen a1 = 196) (e : f_M_nearest_104 h k15_ a0 a1 x2 x3 x5 s0 = some r) : Go l D ad aC (rmk m_M_nearest) (QM D ad aC m_M_nearest (.inl (some (.int r))) h) m_M_nearest 104 [some (.ref a0), some (.ref a1), some (.int x2), some (.int x3), none, some (.int x5), none] [.int s0] h 0 0 := by
  unfold f_M_nearest_104 at e
  refine Go.run (pc' := 109) [.istore 4, .iinc 5 (1)] (ls' := [some (.ref a0), some (.ref a1), some (.int x2), some (.int x3), some (.int s0), some (.int (x5 + (1 : Int32))), none]) (st' := []) (by decide +kernel) rfl rfl ?_
  refine Go.goto (off := -94) (tgt := 15) (by decide +kernel) (by decide) ?_
  exact K15_ k0 k1 q1 e
def f_M_nearest_102 (h : HP) (k15_ : Nat → Nat → Int32 → Int32 → Int32 → Int32 → Option (Int32)) (a0 : Nat) (a1 : Nat) (x2 : Int32) (x3 : Int32) (x4 : Int32) (x5 : Int32) : Option (Int32) :=
  f_M_nearest_104 h k15_ a0 a1 x2 x3 x5 x4
set_option maxHeartbeats 1000000 in
theorem x_M_nearest_102 {l : Launch} {D : va_G} {ad : Nat → Nat} {aC : Nat → ClassId} (hf : l.flags = flags0) (hI : Inj ad) {h : HP} {k15_ : Nat → Nat → Int32 → Int32 → Int32 → Int32 → Option (Int32)} (K15_ : ∀ {a0 : Nat} {a1 : Nat} {x2 : Int32} {x3 : Int32} {x4 : Int32} {x5 : Int32} {r : Int32}, knd a0 = 8 → knd a1 = 10 → alen a1 = 196 → k15_ a0 a1 x2 x3 x4 x5 = some r → Go l D ad aC (rmk m_M_nearest) (QM D ad aC m_M_nearest (.inl (some (.int r))) h) m_M_nearest 15 [some (.ref a0), some (.ref a1), some (.int x2), some (.int x3), some (.int x4), some (.int x5), none] [] h 0 0) {a0 : Nat} {a1 : Nat} {x2 : Int32} {x3 : Int32} {x4 : Int32} {x5 : Int32} {r : Int32} (k0 : knd a0 = 8) (k1 : knd a1 = 10) (q1 : alen a1 = 196) (e : f_M_nearest_102 h k15_ a0 a1 x2 x3 x4 x5 = some r) : Go l D ad aC (rmk m_M_nearest) (QM D ad aC m_M_nearest (.inl (some (.int r))) h) m_M_nearest 102 [some (.ref a0), some (.ref a1), some (.int x2), some (.int x3), some (.int x4), some (.int x5), none] [] h 0 0 := by
  unfold f_M_nearest_102 at e
  refine Go.run (pc' := 104) [.iload 4] (ls' := [some (.ref a0), some (.ref a1), some (.int x2), some (.int x3), some (.int x4), some (.int x5), none]) (st' := [.int x4]) (by decide +kernel) rfl rfl ?_
  refine Go.wk' (wks (wks (wks (wks (wkn (wks (wks wk0))))))) ?_
  exact x_M_nearest_104 hf hI K15_ k0 k1 q1 e
def f_M_nearest_97 (h : HP) (k15_ : Nat → Nat → Int32 → Int32 → Int32 → Int32 → Option (Int32)) (a0 : Nat) (a1 : Nat) (x2 : Int32) (x3 : Int32) (x5 : Int32) : Option (Int32) :=
  f_M_nearest_104 h k15_ a0 a1 x2 x3 x5 x5
set_option maxHeartbeats 1000000 in
theorem x_M_nearest_97 {l : Launch} {D : va_G} {ad : Nat → Nat} {aC : Nat → ClassId} (hf : l.flags = flags0) (hI : Inj ad) {h : HP} {k15_ : Nat → Nat → Int32 → Int32 → Int32 → Int32 → Option (Int32)} (K15_ : ∀ {a0 : Nat} {a1 : Nat} {x2 : Int32} {x3 : Int32} {x4 : Int32} {x5 : Int32} {r : Int32}, knd a0 = 8 → knd a1 = 10 → alen a1 = 196 → k15_ a0 a1 x2 x3 x4 x5 = some r → Go l D ad aC (rmk m_M_nearest) (QM D ad aC m_M_nearest (.inl (some (.int r))) h) m_M_nearest 15 [some (.ref a0), some (.ref a1), some (.int x2), some (.int x3), some (.int x4), some (.int x5), none] [] h 0 0) {a0 : Nat} {a1 : Nat} {x2 : Int32} {x3 : Int32} {x5 : Int32} {r : Int32} (k0 : knd a0 = 8) (k1 : knd a1 = 10) (q1 : alen a1 = 196) (e : f_M_nearest_97 h k15_ a0 a1 x2 x3 x5 = some r) : Go l D ad aC (rmk m_M_nearest) (QM D ad aC m_M_nearest (.inl (some (.int r))) h) m_M_nearest 97 [some (.ref a0), some (.ref a1), some (.int x2), some (.int x3), none, some (.int x5), none] [] h 0 0 := by
  unfold f_M_nearest_97 at e
  refine Go.run (pc' := 99) [.iload 5] (ls' := [some (.ref a0), some (.ref a1), some (.int x2), some (.int x3), none, some (.int x5), none]) (st' := [.int x5]) (by decide +kernel) rfl rfl ?_
  refine Go.goto (off := 5) (tgt := 104) (by decide +kernel) (by decide) ?_
  exact x_M_nearest_104 hf hI K15_ k0 k1 q1 e
def f_M_nearest_67 (h : HP) (k15_ : Nat → Nat → Int32 → Int32 → Int32 → Int32 → Option (Int32)) (a0 : Nat) (a1 : Nat) (x2 : Int32) (x3 : Int32) (x4 : Int32) (x5 : Int32) (s0 : Int32) : Option (Int32) :=
  if s0 = 0 then
    f_M_nearest_102 h k15_ a0 a1 x2 x3 x4 x5
  else
    if x4 = (-1 : Int32) then
      f_M_nearest_97 h k15_ a0 a1 x2 x3 x5
    else
      (f_M_away h a1 x2 x5).bind fun v3 =>
      (f_M_away h a1 x2 x4).bind fun v5 =>
      if v5 ≤ v3 then
        f_M_nearest_102 h k15_ a0 a1 x2 x3 x4 x5
      else
        f_M_nearest_97 h k15_ a0 a1 x2 x3 x5
set_option maxHeartbeats 1000000 in
theorem x_M_nearest_67 {l : Launch} {D : va_G} {ad : Nat → Nat} {aC : Nat → ClassId} (hf : l.flags = flags0) (hI : Inj ad) {h : HP} {k15_ : Nat → Nat → Int32 → Int32 → Int32 → Int32 → Option (Int32)} (K15_ : ∀ {a0 : Nat} {a1 : Nat} {x2 : Int32} {x3 : Int32} {x4 : Int32} {x5 : Int32} {r : Int32}, knd a0 = 8 → knd a1 = 10 → alen a1 = 196 → k15_ a0 a1 x2 x3 x4 x5 = some r → Go l D ad aC (rmk m_M_nearest) (QM D ad aC m_M_nearest (.inl (some (.int r))) h) m_M_nearest 15 [some (.ref a0), some (.ref a1), some (.int x2), some (.int x3), some (.int x4), some (.int x5), none] [] h 0 0) {a0 : Nat} {a1 : Nat} {x2 : Int32} {x3 : Int32} {x4 : Int32} {x5 : Int32} {s0 : Int32} {r : Int32} (k0 : knd a0 = 8) (k1 : knd a1 = 10) (q1 : alen a1 = 196) (e : f_M_nearest_67 h k15_ a0 a1 x2 x3 x4 x5 s0 = some r) : Go l D ad aC (rmk m_M_nearest) (QM D ad aC m_M_nearest (.inl (some (.int r))) h) m_M_nearest 67 [some (.ref a0), some (.ref a1), some (.int x2), some (.int x3), some (.int x4), some (.int x5), none] [.int s0] h 0 0 := by
  unfold f_M_nearest_67 at e
  refine Go.run (pc' := 71) [.istore 6, .iload 6] (ls' := [some (.ref a0), some (.ref a1), some (.int x2), some (.int x3), some (.int x4), some (.int x5), some (.int s0)]) (st' := [.int s0]) (by decide +kernel) rfl rfl ?_
  refine Go.if_eq (off := 31) (tgt := 102) (by decide +kernel) (by decide) (fun c1 => ?_) (fun c1 => ?_)
  · replace e := ite_t c1 e
    refine Go.wk' (wks (wks (wks (wks (wks (wks (wkn wk0))))))) ?_
    exact x_M_nearest_102 hf hI K15_ k0 k1 q1 e
  · replace e := ite_f c1 e
    refine Go.run (pc' := 77) [.iload 4, .iconst (-1)] (ls' := [some (.ref a0), some (.ref a1), some (.int x2), some (.int x3), some (.int x4), some (.int x5), some (.int s0)]) (st' := [.int (-1 : Int32), .int x4]) (by decide +kernel) rfl rfl ?_
    refine Go.ic_eq (off := 20) (tgt := 97) (by decide +kernel) (by decide) (fun c2 => ?_) (fun c2 => ?_)
    · replace e := ite_t c2 e
      refine Go.wk' (wks (wks (wks (wks (wkn (wks (wkn wk0))))))) ?_
      exact x_M_nearest_97 hf hI K15_ k0 k1 q1 e
    · replace e := ite_f c2 e
      refine Go.run (pc' := 84) [.aload_n 1, .iload_n 2, .iload 5] (ls' := [some (.ref a0), some (.ref a1), some (.int x2), some (.int x3), some (.int x4), some (.int x5), some (.int s0)]) (st' := [.int x5, .int x2, .ref a1]) (by decide +kernel) rfl rfl ?_
      obtain ⟨v3, e4, e⟩ := bd_inv e
      refine Go.callS (M2 := m_M_away) (as := [.ref a1, .int x2, .int x5]) (rest := []) (v := some (.int v3)) (h1 := h) (x_M_away hf hI k1 q1 e4) ws_M_86 (by decide +kernel) rfl rfl ⟨⟨Nat.le_of_ble_eq_true rfl, Nat.le_of_ble_eq_true rfl⟩, ⟨Nat.le_of_ble_eq_true rfl, Nat.le_of_ble_eq_true rfl⟩⟩ (Nat.le_of_ble_eq_true rfl) ?_
      show Go l D ad aC (rmk m_M_nearest) _ m_M_nearest 87 [some (.ref a0), some (.ref a1), some (.int x2), some (.int x3), some (.int x4), some (.int x5), some (.int s0)] [.int v3] h 0 0
      refine Go.run (pc' := 91) [.aload_n 1, .iload_n 2, .iload 4] (ls' := [some (.ref a0), some (.ref a1), some (.int x2), some (.int x3), some (.int x4), some (.int x5), some (.int s0)]) (st' := [.int x4, .int x2, .ref a1, .int v3]) (by decide +kernel) rfl rfl ?_
      obtain ⟨v5, e6, e⟩ := bd_inv e
      refine Go.callS (M2 := m_M_away) (as := [.ref a1, .int x2, .int x4]) (rest := [.int v3]) (v := some (.int v5)) (h1 := h) (x_M_away hf hI k1 q1 e6) ws_M_86 (by decide +kernel) rfl rfl ⟨⟨Nat.le_of_ble_eq_true rfl, Nat.le_of_ble_eq_true rfl⟩, ⟨Nat.le_of_ble_eq_true rfl, Nat.le_of_ble_eq_true rfl⟩⟩ (Nat.le_of_ble_eq_true rfl) ?_
      show Go l D ad aC (rmk m_M_nearest) _ m_M_nearest 94 [some (.ref a0), some (.ref a1), some (.int x2), some (.int x3), some (.int x4), some (.int x5), some (.int s0)] [.int v5, .int v3] h 0 0
      refine Go.ic_ge (off := 8) (tgt := 102) (by decide +kernel) (by decide) (fun c7 => ?_) (fun c7 => ?_)
      · replace e := ite_t c7 e
        refine Go.wk' (wks (wks (wks (wks (wks (wks (wkn wk0))))))) ?_
        exact x_M_nearest_102 hf hI K15_ k0 k1 q1 e
      · replace e := ite_f c7 e
        refine Go.wk' (wks (wks (wks (wks (wkn (wks (wkn wk0))))))) ?_
        exact x_M_nearest_97 hf hI K15_ k0 k1 q1 e
def f_M_nearest_66 (h : HP) (k15_ : Nat → Nat → Int32 → Int32 → Int32 → Int32 → Option (Int32)) (a0 : Nat) (a1 : Nat) (x2 : Int32) (x3 : Int32) (x4 : Int32) (x5 : Int32) : Option (Int32) :=
  f_M_nearest_67 h k15_ a0 a1 x2 x3 x4 x5 (0 : Int32)
set_option maxHeartbeats 1000000 in
theorem x_M_nearest_66 {l : Launch} {D : va_G} {ad : Nat → Nat} {aC : Nat → ClassId} (hf : l.flags = flags0) (hI : Inj ad) {h : HP} {k15_ : Nat → Nat → Int32 → Int32 → Int32 → Int32 → Option (Int32)} (K15_ : ∀ {a0 : Nat} {a1 : Nat} {x2 : Int32} {x3 : Int32} {x4 : Int32} {x5 : Int32} {r : Int32}, knd a0 = 8 → knd a1 = 10 → alen a1 = 196 → k15_ a0 a1 x2 x3 x4 x5 = some r → Go l D ad aC (rmk m_M_nearest) (QM D ad aC m_M_nearest (.inl (some (.int r))) h) m_M_nearest 15 [some (.ref a0), some (.ref a1), some (.int x2), some (.int x3), some (.int x4), some (.int x5), none] [] h 0 0) {a0 : Nat} {a1 : Nat} {x2 : Int32} {x3 : Int32} {x4 : Int32} {x5 : Int32} {r : Int32} (k0 : knd a0 = 8) (k1 : knd a1 = 10) (q1 : alen a1 = 196) (e : f_M_nearest_66 h k15_ a0 a1 x2 x3 x4 x5 = some r) : Go l D ad aC (rmk m_M_nearest) (QM D ad aC m_M_nearest (.inl (some (.int r))) h) m_M_nearest 66 [some (.ref a0), some (.ref a1), some (.int x2), some (.int x3), some (.int x4), some (.int x5), none] [] h 0 0 := by
  unfold f_M_nearest_66 at e
  refine Go.run (pc' := 67) [.iconst 0] (ls' := [some (.ref a0), some (.ref a1), some (.int x2), some (.int x3), some (.int x4), some (.int x5), none]) (st' := [.int (0 : Int32)]) (by decide +kernel) rfl rfl ?_
  exact x_M_nearest_67 hf hI K15_ k0 k1 q1 e
def f_M_nearest_15 (h : HP)  : Nat → Nat → Nat → Int32 → Int32 → Int32 → Int32 → Option (Int32)
  | 0, _, _, _, _, _, _ => none
  | n + 1, a0, a1, x2, x3, x4, x5 =>
    (f_M_size h a1 x3).bind fun v1 =>
    if v1 ≤ x5 then
      some x4
    else
      if ib (((30 : Int32) * x3) + x5) 120 = true then
      (f_M_plugs h a1 x3 x5).bind fun v5 =>
      if v5 ≤ (h (fld a0 8) (((30 : Int32) * x3) + x5).toNatClampNeg) then
        f_M_nearest_66 h (f_M_nearest_15 h n) a0 a1 x2 x3 x4 x5
      else
        (f_M_away h a1 x2 x5).bind fun v8 =>
        if ib (191 : Int32) 196 = true then
        if (h a1 (191 : Int32).toNatClampNeg) < v8 then
          f_M_nearest_66 h (f_M_nearest_15 h n) a0 a1 x2 x3 x4 x5
        else
          f_M_nearest_67 h (f_M_nearest_15 h n) a0 a1 x2 x3 x4 x5 (1 : Int32)
        else none
      else none
set_option maxHeartbeats 1000000 in
theorem x_M_nearest_15 {l : Launch} {D : va_G} {ad : Nat → Nat} {aC : Nat → ClassId} (hf : l.flags = flags0) (hI : Inj ad) {h : HP} : ∀ (n : Nat) {a0 : Nat} {a1 : Nat} {x2 : Int32} {x3 : Int32} {x4 : Int32} {x5 : Int32} {r : Int32}, knd a0 = 8 → knd a1 = 10 → alen a1 = 196 → f_M_nearest_15 h n a0 a1 x2 x3 x4 x5 = some r → Go l D ad aC (rmk m_M_nearest) (QM D ad aC m_M_nearest (.inl (some (.int r))) h) m_M_nearest 15 [some (.ref a0), some (.ref a1), some (.int x2), some (.int x3), some (.int x4), some (.int x5), none] [] h 0 0 := by
  intro n
  induction n with
  | zero => intro a0 a1 x2 x3 x4 x5 r k0 k1 q1 e; exact no_none e
  | succ n ih =>
    intro a0 a1 x2 x3 x4 x5 r k0 k1 q1 e
    rw [f_M_nearest_15] at e
    refine Go.run (pc' := 19) [.iload 5, .aload_n 1, .iload_n 3] (ls' := [some (.ref a0), some (.ref a1), some (.int x2), some (.int x3), some (.int x4), some (.int x5), none]) (st' := [.int x3, .ref a1, .int x5]) (by decide +kernel) rfl rfl ?_
    obtain ⟨v1, e2, e⟩ := bd_inv e
    refine Go.callS (M2 := m_M_size) (as := [.ref a1, .int x3]) (rest := [.int x5]) (v := some (.int v1)) (h1 := h) (x_M_size hf hI k1 q1 e2) ws_M_75 (by decide +kernel) rfl rfl ⟨⟨Nat.le_of_ble_eq_true rfl, Nat.le_of_ble_eq_true rfl⟩, ⟨Nat.le_of_ble_eq_true rfl, Nat.le_of_ble_eq_true rfl⟩⟩ (Nat.le_of_ble_eq_true rfl) ?_
    show Go l D ad aC (rmk m_M_nearest) _ m_M_nearest 22 [some (.ref a0), some (.ref a1), some (.int x2), some (.int x3), some (.int x4), some (.int x5), none] [.int v1, .int x5] h 0 0
    refine Go.ic_ge (off := 90) (tgt := 112) (by decide +kernel) (by decide) (fun c3 => ?_) (fun c3 => ?_)
    · replace e := ite_t c3 e
      refine Go.run (pc' := 114) [.iload 4] (ls' := [some (.ref a0), some (.ref a1), some (.int x2), some (.int x3), some (.int x4), some (.int x5), none]) (st' := [.int x4]) (by decide +kernel) rfl rfl ?_
      obtain rfl := Option.some.inj e
      exact Go.iret rfl (by decide) (by decide) (by decide +kernel)
    · replace e := ite_f c3 e
      refine Go.run (pc' := 26) [.aload_n 0] (ls' := [some (.ref a0), some (.ref a1), some (.int x2), some (.int x3), some (.int x4), some (.int x5), none]) (st' := [.ref a0]) (by decide +kernel) rfl rfl ?_
      refine Go.getR fo_M_29 k0 (by decide +kernel) ?_
      refine Go.run (pc' := 36) [.bipush (30), .iload_n 3, .imul, .iload 5, .iadd] (ls' := [some (.ref a0), some (.ref a1), some (.int x2), some (.int x3), some (.int x4), some (.int x5), none]) (st' := [.int (((30 : Int32) * x3) + x5), .ref (fld a0 8)]) (by decide +kernel) rfl rfl ?_
      obtain ⟨g4, e⟩ := gd_inv e
      refine Go.iald (kf_8_j 8 k0 (by decide) (by decide)) (al_8_j 8 k0 (by decide) (by decide) rfl) g4 (by decide +kernel) ?_
      refine Go.run (pc' := 41) [.aload_n 1, .iload_n 3, .iload 5] (ls' := [some (.ref a0), some (.ref a1), some (.int x2), some (.int x3), some (.int x4), some (.int x5), none]) (st' := [.int x5, .int x3, .ref a1, .int (h (fld a0 8) (((30 : Int32) * x3) + x5).toNatClampNeg)]) (by decide +kernel) rfl rfl ?_
      obtain ⟨v5, e6, e⟩ := bd_inv e
      refine Go.callS (M2 := m_M_plugs) (as := [.ref a1, .int x3, .int x5]) (rest := [.int (h (fld a0 8) (((30 : Int32) * x3) + x5).toNatClampNeg)]) (v := some (.int v5)) (h1 := h) (x_M_plugs hf hI k1 q1 e6) ws_M_83 (by decide +kernel) rfl rfl ⟨⟨Nat.le_of_ble_eq_true rfl, Nat.le_of_ble_eq_true rfl⟩, ⟨Nat.le_of_ble_eq_true rfl, Nat.le_of_ble_eq_true rfl⟩⟩ (Nat.le_of_ble_eq_true rfl) ?_
      show Go l D ad aC (rmk m_M_nearest) _ m_M_nearest 44 [some (.ref a0), some (.ref a1), some (.int x2), some (.int x3), some (.int x4), some (.int x5), none] [.int v5, .int (h (fld a0 8) (((30 : Int32) * x3) + x5).toNatClampNeg)] h 0 0
      refine Go.ic_ge (off := 22) (tgt := 66) (by decide +kernel) (by decide) (fun c7 => ?_) (fun c7 => ?_)
      · replace e := ite_t c7 e
        exact x_M_nearest_66 hf hI (fun kk0 kk1 qq1 e => ih kk0 kk1 qq1 e) k0 k1 q1 e
      · replace e := ite_f c7 e
        refine Go.run (pc' := 51) [.aload_n 1, .iload_n 2, .iload 5] (ls' := [some (.ref a0), some (.ref a1), some (.int x2), some (.int x3), some (.int x4), some (.int x5), none]) (st' := [.int x5, .int x2, .ref a1]) (by decide +kernel) rfl rfl ?_
        obtain ⟨v8, e9, e⟩ := bd_inv e
        refine Go.callS (M2 := m_M_away) (as := [.ref a1, .int x2, .int x5]) (rest := []) (v := some (.int v8)) (h1 := h) (x_M_away hf hI k1 q1 e9) ws_M_86 (by decide +kernel) rfl rfl ⟨⟨Nat.le_of_ble_eq_true rfl, Nat.le_of_ble_eq_true rfl⟩, ⟨Nat.le_of_ble_eq_true rfl, Nat.le_of_ble_eq_true rfl⟩⟩ (Nat.le_of_ble_eq_true rfl) ?_
        show Go l D ad aC (rmk m_M_nearest) _ m_M_nearest 54 [some (.ref a0), some (.ref a1), some (.int x2), some (.int x3), some (.int x4), some (.int x5), none] [.int v8] h 0 0
        refine Go.run (pc' := 58) [.aload_n 1, .sipush (191)] (ls' := [some (.ref a0), some (.ref a1), some (.int x2), some (.int x3), some (.int x4), some (.int x5), none]) (st' := [.int (191 : Int32), .ref a1, .int v8]) (by decide +kernel) rfl rfl ?_
        obtain ⟨g10, e⟩ := gd_inv e
        refine Go.iald k1 q1 g10 (by decide +kernel) ?_
        refine Go.ic_gt (off := 7) (tgt := 66) (by decide +kernel) (by decide) (fun c11 => ?_) (fun c11 => ?_)
        · replace e := ite_t c11 e
          exact x_M_nearest_66 hf hI (fun kk0 kk1 qq1 e => ih kk0 kk1 qq1 e) k0 k1 q1 e
        · replace e := ite_f c11 e
          refine Go.run (pc' := 63) [.iconst 1] (ls' := [some (.ref a0), some (.ref a1), some (.int x2), some (.int x3), some (.int x4), some (.int x5), none]) (st' := [.int (1 : Int32)]) (by decide +kernel) rfl rfl ?_
          refine Go.goto (off := 4) (tgt := 67) (by decide +kernel) (by decide) ?_
          exact x_M_nearest_67 hf hI (fun kk0 kk1 qq1 e => ih kk0 kk1 qq1 e) k0 k1 q1 e
def f_M_nearest (h : HP) (a0 : Nat) (a1 : Nat) (x2 : Int32) : Option (Int32) :=
  (f_M_spot h x2).bind fun v1 =>
  if ib (v1 + (3 : Int32)) 196 = true then
  f_M_nearest_15 h 4096 a0 a1 x2 (h a1 (v1 + (3 : Int32)).toNatClampNeg) (-1 : Int32) (0 : Int32)
  else none
set_option maxHeartbeats 1000000 in
theorem x_M_nearest {l : Launch} {D : va_G} {ad : Nat → Nat} {aC : Nat → ClassId} (hf : l.flags = flags0) (hI : Inj ad) {h : HP} {a0 : Nat} {a1 : Nat} {x2 : Int32} {r : Int32} (k0 : knd a0 = 8) (k1 : knd a1 = 10) (q1 : alen a1 = 196) (e : f_M_nearest h a0 a1 x2 = some r) : CT l D ad aC m_M_nearest [.ref a0, .ref a1, .int x2] h (.inl (some (.int r))) h := by
  refine CT.ofGo (by decide +kernel) rfl (Nat.le_of_ble_eq_true rfl) ?_
  unfold f_M_nearest at e
  show Go l D ad aC (rmk m_M_nearest) _ m_M_nearest 0 [some (.ref a0), some (.ref a1), some (.int x2), none, none, none, none] [] h 0 0
  refine Go.run (pc' := 2) [.aload_n 1, .iload_n 2] (ls' := [some (.ref a0), some (.ref a1), some (.int x2), none, none, none, none]) (st' := [.int x2, .ref a1]) (by decide +kernel) rfl rfl ?_
  obtain ⟨v1, e2, e⟩ := bd_inv e
  refine Go.callS (M2 := m_M_spot) (as := [.int x2]) (rest := [.ref a1]) (v := some (.int v1)) (h1 := h) (x_M_spot hf hI  e2) ws_M_71 (by decide +kernel) rfl rfl ⟨⟨Nat.le_of_ble_eq_true rfl, Nat.le_of_ble_eq_true rfl⟩, ⟨Nat.le_of_ble_eq_true rfl, Nat.le_of_ble_eq_true rfl⟩⟩ (Nat.le_of_ble_eq_true rfl) ?_
  show Go l D ad aC (rmk m_M_nearest) _ m_M_nearest 5 [some (.ref a0), some (.ref a1), some (.int x2), none, none, none, none] [.int v1, .ref a1] h 0 0
  refine Go.run (pc' := 7) [.iconst 3, .iadd] (ls' := [some (.ref a0), some (.ref a1), some (.int x2), none, none, none, none]) (st' := [.int (v1 + (3 : Int32)), .ref a1]) (by decide +kernel) rfl rfl ?_
  obtain ⟨g3, e⟩ := gd_inv e
  refine Go.iald k1 q1 g3 (by decide +kernel) ?_
  refine Go.run (pc' := 15) [.istore_n 3, .iconst (-1), .istore 4, .iconst 0, .istore 5] (ls' := [some (.ref a0), some (.ref a1), some (.int x2), some (.int (h a1 (v1 + (3 : Int32)).toNatClampNeg)), some (.int (-1 : Int32)), some (.int (0 : Int32)), none]) (st' := []) (by decide +kernel) rfl rfl ?_
  exact x_M_nearest_15 hf hI 4096 k0 k1 q1 e
def f_M_share_187 (k68_ : Nat → Nat → Int32 → HP → Option (HP)) (k110_ : Nat → Nat → Int32 → Int32 → Int32 → HP → Option (HP)) (a0 : Nat) (a1 : Nat) (x2 : Int32) (x3 : Int32) (s0 : Int32) (h : HP) : Option (HP) :=
  k110_ a0 a1 x2 x3 s0 h
set_option maxHeartbeats 1000000 in
theorem x_M_share_187 {l : Launch} {D : va_G} {ad : Nat → Nat} {aC : Nat → ClassId} (hf : l.flags = flags0) (hI : Inj ad) {k68_ : Nat → Nat → Int32 → HP → Option (HP)} {k110_ : Nat → Nat → Int32 → Int32 → Int32 → HP → Option (HP)} (K68_ : ∀ {a0 : Nat} {a1 : Nat} {x2 : Int32} {h : HP} {r : HP}, knd a0 = 8 → knd a1 = 10 → alen a1 = 196 → k68_ a0 a1 x2 h = some r → Go l D ad aC (rmk m_M_share) (QM D ad aC m_M_share (.inl none) r) m_M_share 68 [some (.ref a0), some (.ref a1), some (.int x2), none, none] [] h 0 0) (K110_ : ∀ {a0 : Nat} {a1 : Nat} {x2 : Int32} {x3 : Int32} {x4 : Int32} {h : HP} {r : HP}, knd a0 = 8 → knd a1 = 10 → alen a1 = 196 → k110_ a0 a1 x2 x3 x4 h = some r → Go l D ad aC (rmk m_M_share) (QM D ad aC m_M_share (.inl none) r) m_M_share 110 [some (.ref a0), some (.ref a1), some (.int x2), some (.int x3), some (.int x4)] [] h 0 0) {a0 : Nat} {a1 : Nat} {x2 : Int32} {x3 : Int32} {s0 : Int32} {h : HP} {r : HP} (k0 : knd a0 = 8) (k1 : knd a1 = 10) (q1 : alen a1 = 196) (e : f_M_share_187 k68_ k110_ a0 a1 x2 x3 s0 h = some r) : Go l D ad aC (rmk m_M_share) (QM D ad aC m_M_share (.inl none) r) m_M_share 187 [some (.ref a0), some (.ref a1), some (.int x2), some (.int x3), none] [.int s0] h 0 0 := by
  unfold f_M_share_187 at e
  refine Go.run (pc' := 189) [.istore 4] (ls' := [some (.ref a0), some (.ref a1), some (.int x2), some (.int x3), some (.int s0)]) (st' := []) (by decide +kernel) rfl rfl ?_
  refine Go.goto (off := -79) (tgt := 110) (by decide +kernel) (by decide) ?_
  exact K110_ k0 k1 q1 e
def f_M_share_110 (k68_ : Nat → Nat → Int32 → HP → Option (HP)) : Nat → Nat → Nat → Int32 → Int32 → Int32 → HP → Option (HP)
  | 0, _, _, _, _, _, _ => none
  | n + 1, a0, a1, x2, x3, x4, h =>
    if x4 = (-1 : Int32) then
      k68_ a0 a1 (x2 + (1 : Int32)) h
    else
      if ib (x3 + (3 : Int32)) 196 = true then
      if ib (((30 : Int32) * (h a1 (x3 + (3 : Int32)).toNatClampNeg)) + x4) 120 = true then
      if ib (((30 : Int32) * (h a1 (x3 + (3 : Int32)).toNatClampNeg)) + x4) 120 = true then
      (some (hset h (fld a0 8) (((30 : Int32) * (h a1 (x3 + (3 : Int32)).toNatClampNeg)) + x4).toNatClampNeg ((h (fld a0 8) (((30 : Int32) * (h a1 (x3 + (3 : Int32)).toNatClampNeg)) + x4).toNatClampNeg) + (1 : Int32)))).bind fun h5 =>
      if ib x2 10 = true then
      if ib (((3 : Int32) * x2) + (h5 (fld a0 9) x2.toNatClampNeg)) 30 = true then
      (some (hset h5 (fld a0 10) (((3 : Int32) * x2) + (h5 (fld a0 9) x2.toNatClampNeg)).toNatClampNeg x4)).bind fun h9 =>
      if ib x2 10 = true then
      if ib x2 10 = true then
      (some (hset h9 (fld a0 9) x2.toNatClampNeg ((h9 (fld a0 9) x2.toNatClampNeg) + (1 : Int32)))).bind fun h13 =>
      if ib x2 10 = true then
      if ib (x3 + (2 : Int32)) 196 = true then
      if (h13 a1 (x3 + (2 : Int32)).toNatClampNeg) ≤ (h13 (fld a0 9) x2.toNatClampNeg) then
        f_M_share_187 k68_ (f_M_share_110 k68_ n) a0 a1 x2 x3 (-1 : Int32) h13
      else
        (f_M_nearest h13 a0 a1 x2).bind fun v18 =>
        f_M_share_187 k68_ (f_M_share_110 k68_ n) a0 a1 x2 x3 v18 h13
      else none
      else none
      else none
      else none
      else none
      else none
      else none
      else none
      else none
set_option maxHeartbeats 1000000 in
theorem x_M_share_110 {l : Launch} {D : va_G} {ad : Nat → Nat} {aC : Nat → ClassId} (hf : l.flags = flags0) (hI : Inj ad) {k68_ : Nat → Nat → Int32 → HP → Option (HP)} (K68_ : ∀ {a0 : Nat} {a1 : Nat} {x2 : Int32} {h : HP} {r : HP}, knd a0 = 8 → knd a1 = 10 → alen a1 = 196 → k68_ a0 a1 x2 h = some r → Go l D ad aC (rmk m_M_share) (QM D ad aC m_M_share (.inl none) r) m_M_share 68 [some (.ref a0), some (.ref a1), some (.int x2), none, none] [] h 0 0) : ∀ (n : Nat) {a0 : Nat} {a1 : Nat} {x2 : Int32} {x3 : Int32} {x4 : Int32} {h : HP} {r : HP}, knd a0 = 8 → knd a1 = 10 → alen a1 = 196 → f_M_share_110 k68_ n a0 a1 x2 x3 x4 h = some r → Go l D ad aC (rmk m_M_share) (QM D ad aC m_M_share (.inl none) r) m_M_share 110 [some (.ref a0), some (.ref a1), some (.int x2), some (.int x3), some (.int x4)] [] h 0 0 := by
  intro n
  induction n with
  | zero => intro a0 a1 x2 x3 x4 h r k0 k1 q1 e; exact no_none e
  | succ n ih =>
    intro a0 a1 x2 x3 x4 h r k0 k1 q1 e
    rw [f_M_share_110] at e
    refine Go.run (pc' := 113) [.iload 4, .iconst (-1)] (ls' := [some (.ref a0), some (.ref a1), some (.int x2), some (.int x3), some (.int x4)]) (st' := [.int (-1 : Int32), .int x4]) (by decide +kernel) rfl rfl ?_
    refine Go.ic_eq (off := 79) (tgt := 192) (by decide +kernel) (by decide) (fun c1 => ?_) (fun c1 => ?_)
    · replace e := ite_t c1 e
      refine Go.run (pc' := 195) [.iinc 2 (1)] (ls' := [some (.ref a0), some (.ref a1), some (.int (x2 + (1 : Int32))), some (.int x3), some (.int x4)]) (st' := []) (by decide +kernel) rfl rfl ?_
      refine Go.goto (off := -127) (tgt := 68) (by decide +kernel) (by decide) ?_
      refine Go.wk' (wks (wks (wks (wkn (wkn wk0))))) ?_
      exact K68_ k0 k1 q1 e
    · replace e := ite_f c1 e
      refine Go.run (pc' := 117) [.aload_n 0] (ls' := [some (.ref a0), some (.ref a1), some (.int x2), some (.int x3), some (.int x4)]) (st' := [.ref a0]) (by decide +kernel) rfl rfl ?_
      refine Go.getR fo_M_29 k0 (by decide +kernel) ?_
      refine Go.run (pc' := 126) [.bipush (30), .aload_n 1, .iload_n 3, .iconst 3, .iadd] (ls' := [some (.ref a0), some (.ref a1), some (.int x2), some (.int x3), some (.int x4)]) (st' := [.int (x3 + (3 : Int32)), .ref a1, .int (30 : Int32), .ref (fld a0 8)]) (by decide +kernel) rfl rfl ?_
      obtain ⟨g2, e⟩ := gd_inv e
      refine Go.iald k1 q1 g2 (by decide +kernel) ?_
      refine Go.run (pc' := 132) [.imul, .iload 4, .iadd, .dup2] (ls' := [some (.ref a0), some (.ref a1), some (.int x2), some (.int x3), some (.int x4)]) (st' := [.int (((30 : Int32) * (h a1 (x3 + (3 : Int32)).toNatClampNeg)) + x4), .ref (fld a0 8), .int (((30 : Int32) * (h a1 (x3 + (3 : Int32)).toNatClampNeg)) + x4), .ref (fld a0 8)]) (by decide +kernel) rfl rfl ?_
      obtain ⟨g3, e⟩ := gd_inv e
      refine Go.iald (kf_8_j 8 k0 (by decide) (by decide)) (al_8_j 8 k0 (by decide) (by decide) rfl) g3 (by decide +kernel) ?_
      refine Go.run (pc' := 135) [.iconst 1, .iadd] (ls' := [some (.ref a0), some (.ref a1), some (.int x2), some (.int x3), some (.int x4)]) (st' := [.int ((h (fld a0 8) (((30 : Int32) * (h a1 (x3 + (3 : Int32)).toNatClampNeg)) + x4).toNatClampNeg) + (1 : Int32)), .int (((30 : Int32) * (h a1 (x3 + (3 : Int32)).toNatClampNeg)) + x4), .ref (fld a0 8)]) (by decide +kernel) rfl rfl ?_
      obtain ⟨g4, e⟩ := gd_inv e
      refine Go.iast hI (kf_8_j 8 k0 (by decide) (by decide)) (al_8_j 8 k0 (by decide) (by decide) rfl) g4 (by decide +kernel) ?_
      obtain ⟨h5, q6, e⟩ := bd_inv e
      refine Go.eqH (Option.some.inj q6) ?_
      refine Go.run (pc' := 137) [.aload_n 0] (ls' := [some (.ref a0), some (.ref a1), some (.int x2), some (.int x3), some (.int x4)]) (st' := [.ref a0]) (by decide +kernel) rfl rfl ?_
      refine Go.getR fo_M_35 k0 (by decide +kernel) ?_
      refine Go.run (pc' := 144) [.iconst 3, .iload_n 2, .imul, .aload_n 0] (ls' := [some (.ref a0), some (.ref a1), some (.int x2), some (.int x3), some (.int x4)]) (st' := [.ref a0, .int ((3 : Int32) * x2), .ref (fld a0 10)]) (by decide +kernel) rfl rfl ?_
      refine Go.getR fo_M_32 k0 (by decide +kernel) ?_
      refine Go.run (pc' := 148) [.iload_n 2] (ls' := [some (.ref a0), some (.ref a1), some (.int x2), some (.int x3), some (.int x4)]) (st' := [.int x2, .ref (fld a0 9), .int ((3 : Int32) * x2), .ref (fld a0 10)]) (by decide +kernel) rfl rfl ?_
      obtain ⟨g7, e⟩ := gd_inv e
      refine Go.iald (kf_8_j 9 k0 (by decide) (by decide)) (al_8_j 9 k0 (by decide) (by decide) rfl) g7 (by decide +kernel) ?_
      refine Go.run (pc' := 152) [.iadd, .iload 4] (ls' := [some (.ref a0), some (.ref a1), some (.int x2), some (.int x3), some (.int x4)]) (st' := [.int x4, .int (((3 : Int32) * x2) + (h5 (fld a0 9) x2.toNatClampNeg)), .ref (fld a0 10)]) (by decide +kernel) rfl rfl ?_
      obtain ⟨g8, e⟩ := gd_inv e
      refine Go.iast hI (kf_8_j 10 k0 (by decide) (by decide)) (al_8_j 10 k0 (by decide) (by decide) rfl) g8 (by decide +kernel) ?_
      obtain ⟨h9, q10, e⟩ := bd_inv e
      refine Go.eqH (Option.some.inj q10) ?_
      refine Go.run (pc' := 154) [.aload_n 0] (ls' := [some (.ref a0), some (.ref a1), some (.int x2), some (.int x3), some (.int x4)]) (st' := [.ref a0]) (by decide +kernel) rfl rfl ?_
      refine Go.getR fo_M_32 k0 (by decide +kernel) ?_
      refine Go.run (pc' := 159) [.iload_n 2, .dup2] (ls' := [some (.ref a0), some (.ref a1), some (.int x2), some (.int x3), some (.int x4)]) (st' := [.int x2, .ref (fld a0 9), .int x2, .ref (fld a0 9)]) (by decide +kernel) rfl rfl ?_
      obtain ⟨g11, e⟩ := gd_inv e
      refine Go.iald (kf_8_j 9 k0 (by decide) (by decide)) (al_8_j 9 k0 (by decide) (by decide) rfl) g11 (by decide +kernel) ?_
      refine Go.run (pc' := 162) [.iconst 1, .iadd] (ls' := [some (.ref a0), some (.ref a1), some (.int x2), some (.int x3), some (.int x4)]) (st' := [.int ((h9 (fld a0 9) x2.toNatClampNeg) + (1 : Int32)), .int x2, .ref (fld a0 9)]) (by decide +kernel) rfl rfl ?_
      obtain ⟨g12, e⟩ := gd_inv e
      refine Go.iast hI (kf_8_j 9 k0 (by decide) (by decide)) (al_8_j 9 k0 (by decide) (by decide) rfl) g12 (by decide +kernel) ?_
      obtain ⟨h13, q14, e⟩ := bd_inv e
      refine Go.eqH (Option.some.inj q14) ?_
      refine Go.run (pc' := 164) [.aload_n 0] (ls' := [some (.ref a0), some (.ref a1), some (.int x2), some (.int x3), some (.int x4)]) (st' := [.ref a0]) (by decide +kernel) rfl rfl ?_
      refine Go.getR fo_M_32 k0 (by decide +kernel) ?_
      refine Go.run (pc' := 168) [.iload_n 2] (ls' := [some (.ref a0), some (.ref a1), some (.int x2), some (.int x3), some (.int x4)]) (st' := [.int x2, .ref (fld a0 9)]) (by decide +kernel) rfl rfl ?_
      obtain ⟨g15, e⟩ := gd_inv e
      refine Go.iald (kf_8_j 9 k0 (by decide) (by decide)) (al_8_j 9 k0 (by decide) (by decide) rfl) g15 (by decide +kernel) ?_
      refine Go.run (pc' := 173) [.aload_n 1, .iload_n 3, .iconst 2, .iadd] (ls' := [some (.ref a0), some (.ref a1), some (.int x2), some (.int x3), some (.int x4)]) (st' := [.int (x3 + (2 : Int32)), .ref a1, .int (h13 (fld a0 9) x2.toNatClampNeg)]) (by decide +kernel) rfl rfl ?_
      obtain ⟨g16, e⟩ := gd_inv e
      refine Go.iald k1 q1 g16 (by decide +kernel) ?_
      refine Go.ic_ge (off := 12) (tgt := 186) (by decide +kernel) (by decide) (fun c17 => ?_) (fun c17 => ?_)
      · replace e := ite_t c17 e
        refine Go.run (pc' := 187) [.iconst (-1)] (ls' := [some (.ref a0), some (.ref a1), some (.int x2), some (.int x3), some (.int x4)]) (st' := [.int (-1 : Int32)]) (by decide +kernel) rfl rfl ?_
        refine Go.wk' (wks (wks (wks (wks (wkn wk0))))) ?_
        exact x_M_share_187 hf hI K68_ (fun kk0 kk1 qq1 e => ih kk0 kk1 qq1 e) k0 k1 q1 e
      · replace e := ite_f c17 e
        refine Go.run (pc' := 180) [.aload_n 0, .aload_n 1, .iload_n 2] (ls' := [some (.ref a0), some (.ref a1), some (.int x2), some (.int x3), some (.int x4)]) (st' := [.int x2, .ref a1, .ref a0]) (by decide +kernel) rfl rfl ?_
        obtain ⟨v18, e19, e⟩ := bd_inv e
        refine Go.callV (M2 := m_M_nearest) (a := a0) (as := [.ref a1, .int x2]) (rest := []) (v := some (.int v18)) (h1 := h13) (x_M_nearest hf hI k0 k1 q1 e19) wv_M_92 k0 kc_8 (by decide +kernel) rfl rfl ⟨⟨Nat.le_of_ble_eq_true rfl, Nat.le_of_ble_eq_true rfl⟩, ⟨Nat.le_of_ble_eq_true rfl, Nat.le_of_ble_eq_true rfl⟩⟩ (Nat.le_of_ble_eq_true rfl) ?_
        show Go l D ad aC (rmk m_M_share) _ m_M_share 183 [some (.ref a0), some (.ref a1), some (.int x2), some (.int x3), some (.int x4)] [.int v18] h13 0 0
        refine Go.goto (off := 4) (tgt := 187) (by decide +kernel) (by decide) ?_
        refine Go.wk' (wks (wks (wks (wks (wkn wk0))))) ?_
        exact x_M_share_187 hf hI K68_ (fun kk0 kk1 qq1 e => ih kk0 kk1 qq1 e) k0 k1 q1 e
def f_M_share_108 (k68_ : Nat → Nat → Int32 → HP → Option (HP)) (a0 : Nat) (a1 : Nat) (x2 : Int32) (x3 : Int32) (s0 : Int32) (h : HP) : Option (HP) :=
  f_M_share_110 k68_ 4096 a0 a1 x2 x3 s0 h
set_option maxHeartbeats 1000000 in
theorem x_M_share_108 {l : Launch} {D : va_G} {ad : Nat → Nat} {aC : Nat → ClassId} (hf : l.flags = flags0) (hI : Inj ad) {k68_ : Nat → Nat → Int32 → HP → Option (HP)} (K68_ : ∀ {a0 : Nat} {a1 : Nat} {x2 : Int32} {h : HP} {r : HP}, knd a0 = 8 → knd a1 = 10 → alen a1 = 196 → k68_ a0 a1 x2 h = some r → Go l D ad aC (rmk m_M_share) (QM D ad aC m_M_share (.inl none) r) m_M_share 68 [some (.ref a0), some (.ref a1), some (.int x2), none, none] [] h 0 0) {a0 : Nat} {a1 : Nat} {x2 : Int32} {x3 : Int32} {s0 : Int32} {h : HP} {r : HP} (k0 : knd a0 = 8) (k1 : knd a1 = 10) (q1 : alen a1 = 196) (e : f_M_share_108 k68_ a0 a1 x2 x3 s0 h = some r) : Go l D ad aC (rmk m_M_share) (QM D ad aC m_M_share (.inl none) r) m_M_share 108 [some (.ref a0), some (.ref a1), some (.int x2), some (.int x3), none] [.int s0] h 0 0 := by
  unfold f_M_share_108 at e
  refine Go.run (pc' := 110) [.istore 4] (ls' := [some (.ref a0), some (.ref a1), some (.int x2), some (.int x3), some (.int s0)]) (st' := []) (by decide +kernel) rfl rfl ?_
  exact x_M_share_110 hf hI K68_ 4096 k0 k1 q1 e
def f_M_share_107 (k68_ : Nat → Nat → Int32 → HP → Option (HP)) (a0 : Nat) (a1 : Nat) (x2 : Int32) (x3 : Int32) (h : HP) : Option (HP) :=
  f_M_share_108 k68_ a0 a1 x2 x3 (-1 : Int32) h
set_option maxHeartbeats 1000000 in
theorem x_M_share_107 {l : Launch} {D : va_G} {ad : Nat → Nat} {aC : Nat → ClassId} (hf : l.flags = flags0) (hI : Inj ad) {k68_ : Nat → Nat → Int32 → HP → Option (HP)} (K68_ : ∀ {a0 : Nat} {a1 : Nat} {x2 : Int32} {h : HP} {r : HP}, knd a0 = 8 → knd a1 = 10 → alen a1 = 196 → k68_ a0 a1 x2 h = some r → Go l D ad aC (rmk m_M_share) (QM D ad aC m_M_share (.inl none) r) m_M_share 68 [some (.ref a0), some (.ref a1), some (.int x2), none, none] [] h 0 0) {a0 : Nat} {a1 : Nat} {x2 : Int32} {x3 : Int32} {h : HP} {r : HP} (k0 : knd a0 = 8) (k1 : knd a1 = 10) (q1 : alen a1 = 196) (e : f_M_share_107 k68_ a0 a1 x2 x3 h = some r) : Go l D ad aC (rmk m_M_share) (QM D ad aC m_M_share (.inl none) r) m_M_share 107 [some (.ref a0), some (.ref a1), some (.int x2), some (.int x3), none] [] h 0 0 := by
  unfold f_M_share_107 at e
  refine Go.run (pc' := 108) [.iconst (-1)] (ls' := [some (.ref a0), some (.ref a1), some (.int x2), some (.int x3), none]) (st' := [.int (-1 : Int32)]) (by decide +kernel) rfl rfl ?_
  exact x_M_share_108 hf hI K68_ k0 k1 q1 e
def f_M_share_68  : Nat → Nat → Nat → Int32 → HP → Option (HP)
  | 0, _, _, _, _ => none
  | n + 1, a0, a1, x2, h =>
    if ib (185 : Int32) 196 = true then
    if (h a1 (185 : Int32).toNatClampNeg) ≤ x2 then
      some h
    else
      (f_M_spot h x2).bind fun v3 =>
      (f_M_stands h a1 x2).bind fun v5 =>
      if v5 = 0 then
        f_M_share_107 (f_M_share_68 n) a0 a1 x2 v3 h
      else
        if ib (v3 + (2 : Int32)) 196 = true then
        if (h a1 (v3 + (2 : Int32)).toNatClampNeg) ≤ 0 then
          f_M_share_107 (f_M_share_68 n) a0 a1 x2 v3 h
        else
          (f_M_nearest h a0 a1 x2).bind fun v10 =>
          f_M_share_108 (f_M_share_68 n) a0 a1 x2 v3 v10 h
        else none
    else none
set_option maxHeartbeats 1000000 in
theorem x_M_share_68 {l : Launch} {D : va_G} {ad : Nat → Nat} {aC : Nat → ClassId} (hf : l.flags = flags0) (hI : Inj ad) : ∀ (n : Nat) {a0 : Nat} {a1 : Nat} {x2 : Int32} {h : HP} {r : HP}, knd a0 = 8 → knd a1 = 10 → alen a1 = 196 → f_M_share_68 n a0 a1 x2 h = some r → Go l D ad aC (rmk m_M_share) (QM D ad aC m_M_share (.inl none) r) m_M_share 68 [some (.ref a0), some (.ref a1), some (.int x2), none, none] [] h 0 0 := by
  intro n
  induction n with
  | zero => intro a0 a1 x2 h r k0 k1 q1 e; exact no_none e
  | succ n ih =>
    intro a0 a1 x2 h r k0 k1 q1 e
    rw [f_M_share_68] at e
    refine Go.run (pc' := 73) [.iload_n 2, .aload_n 1, .sipush (185)] (ls' := [some (.ref a0), some (.ref a1), some (.int x2), none, none]) (st' := [.int (185 : Int32), .ref a1, .int x2]) (by decide +kernel) rfl rfl ?_
    obtain ⟨g1, e⟩ := gd_inv e
    refine Go.iald k1 q1 g1 (by decide +kernel) ?_
    refine Go.ic_ge (off := 124) (tgt := 198) (by decide +kernel) (by decide) (fun c2 => ?_) (fun c2 => ?_)
    · replace e := ite_t c2 e
      obtain rfl := Option.some.inj e
      exact Go.vret rfl (by decide) (by decide) (by decide +kernel)
    · replace e := ite_f c2 e
      refine Go.run (pc' := 78) [.iload_n 2] (ls' := [some (.ref a0), some (.ref a1), some (.int x2), none, none]) (st' := [.int x2]) (by decide +kernel) rfl rfl ?_
      obtain ⟨v3, e4, e⟩ := bd_inv e
      refine Go.callS (M2 := m_M_spot) (as := [.int x2]) (rest := []) (v := some (.int v3)) (h1 := h) (x_M_spot hf hI  e4) ws_M_71 (by decide +kernel) rfl rfl ⟨⟨Nat.le_of_ble_eq_true rfl, Nat.le_of_ble_eq_true rfl⟩, ⟨Nat.le_of_ble_eq_true rfl, Nat.le_of_ble_eq_true rfl⟩⟩ (Nat.le_of_ble_eq_true rfl) ?_
      show Go l D ad aC (rmk m_M_share) _ m_M_share 81 [some (.ref a0), some (.ref a1), some (.int x2), none, none] [.int v3] h 0 0
      refine Go.run (pc' := 84) [.istore_n 3, .aload_n 1, .iload_n 2] (ls' := [some (.ref a0), some (.ref a1), some (.int x2), some (.int v3), none]) (st' := [.int x2, .ref a1]) (by decide +kernel) rfl rfl ?_
      obtain ⟨v5, e6, e⟩ := bd_inv e
      refine Go.callS (M2 := m_M_stands) (as := [.ref a1, .int x2]) (rest := []) (v := some (.int v5)) (h1 := h) (x_M_stands hf hI k1 q1 e6) ws_M_89 (by decide +kernel) rfl rfl ⟨⟨Nat.le_of_ble_eq_true rfl, Nat.le_of_ble_eq_true rfl⟩, ⟨Nat.le_of_ble_eq_true rfl, Nat.le_of_ble_eq_true rfl⟩⟩ (Nat.le_of_ble_eq_true rfl) ?_
      show Go l D ad aC (rmk m_M_share) _ m_M_share 87 [some (.ref a0), some (.ref a1), some (.int x2), some (.int v3), none] [.int v5] h 0 0
      refine Go.if_eq (off := 20) (tgt := 107) (by decide +kernel) (by decide) (fun c7 => ?_) (fun c7 => ?_)
      · replace e := ite_t c7 e
        exact x_M_share_107 hf hI (fun kk0 kk1 qq1 e => ih kk0 kk1 qq1 e) k0 k1 q1 e
      · replace e := ite_f c7 e
        refine Go.run (pc' := 94) [.aload_n 1, .iload_n 3, .iconst 2, .iadd] (ls' := [some (.ref a0), some (.ref a1), some (.int x2), some (.int v3), none]) (st' := [.int (v3 + (2 : Int32)), .ref a1]) (by decide +kernel) rfl rfl ?_
        obtain ⟨g8, e⟩ := gd_inv e
        refine Go.iald k1 q1 g8 (by decide +kernel) ?_
        refine Go.if_le (off := 12) (tgt := 107) (by decide +kernel) (by decide) (fun c9 => ?_) (fun c9 => ?_)
        · replace e := ite_t c9 e
          exact x_M_share_107 hf hI (fun kk0 kk1 qq1 e => ih kk0 kk1 qq1 e) k0 k1 q1 e
        · replace e := ite_f c9 e
          refine Go.run (pc' := 101) [.aload_n 0, .aload_n 1, .iload_n 2] (ls' := [some (.ref a0), some (.ref a1), some (.int x2), some (.int v3), none]) (st' := [.int x2, .ref a1, .ref a0]) (by decide +kernel) rfl rfl ?_
          obtain ⟨v10, e11, e⟩ := bd_inv e
          refine Go.callV (M2 := m_M_nearest) (a := a0) (as := [.ref a1, .int x2]) (rest := []) (v := some (.int v10)) (h1 := h) (x_M_nearest hf hI k0 k1 q1 e11) wv_M_92 k0 kc_8 (by decide +kernel) rfl rfl ⟨⟨Nat.le_of_ble_eq_true rfl, Nat.le_of_ble_eq_true rfl⟩, ⟨Nat.le_of_ble_eq_true rfl, Nat.le_of_ble_eq_true rfl⟩⟩ (Nat.le_of_ble_eq_true rfl) ?_
          show Go l D ad aC (rmk m_M_share) _ m_M_share 104 [some (.ref a0), some (.ref a1), some (.int x2), some (.int v3), none] [.int v10] h 0 0
          refine Go.goto (off := 4) (tgt := 108) (by decide +kernel) (by decide) ?_
          exact x_M_share_108 hf hI (fun kk0 kk1 qq1 e => ih kk0 kk1 qq1 e) k0 k1 q1 e
def f_M_share_38 (k23_ : Nat → Nat → Int32 → HP → Option (HP)) : Nat → Nat → Nat → Int32 → Int32 → HP → Option (HP)
  | 0, _, _, _, _, _ => none
  | n + 1, a0, a1, x2, x3, h =>
    if (3 : Int32) ≤ x3 then
      k23_ a0 a1 (x2 + (1 : Int32)) h
    else
      if ib (((3 : Int32) * x2) + x3) 30 = true then
      (some (hset h (fld a0 10) (((3 : Int32) * x2) + x3).toNatClampNeg (-1 : Int32))).bind fun h3 =>
      f_M_share_38 k23_ n a0 a1 x2 (x3 + (1 : Int32)) h3
      else none
set_option maxHeartbeats 1000000 in
theorem x_M_share_38 {l : Launch} {D : va_G} {ad : Nat → Nat} {aC : Nat → ClassId} (hf : l.flags = flags0) (hI : Inj ad) {k23_ : Nat → Nat → Int32 → HP → Option (HP)} (K23_ : ∀ {a0 : Nat} {a1 : Nat} {x2 : Int32} {h : HP} {r : HP}, knd a0 = 8 → knd a1 = 10 → alen a1 = 196 → k23_ a0 a1 x2 h = some r → Go l D ad aC (rmk m_M_share) (QM D ad aC m_M_share (.inl none) r) m_M_share 23 [some (.ref a0), some (.ref a1), some (.int x2), none, none] [] h 0 0) : ∀ (n : Nat) {a0 : Nat} {a1 : Nat} {x2 : Int32} {x3 : Int32} {h : HP} {r : HP}, knd a0 = 8 → knd a1 = 10 → alen a1 = 196 → f_M_share_38 k23_ n a0 a1 x2 x3 h = some r → Go l D ad aC (rmk m_M_share) (QM D ad aC m_M_share (.inl none) r) m_M_share 38 [some (.ref a0), some (.ref a1), some (.int x2), some (.int x3), none] [] h 0 0 := by
  intro n
  induction n with
  | zero => intro a0 a1 x2 x3 h r k0 k1 q1 e; exact no_none e
  | succ n ih =>
    intro a0 a1 x2 x3 h r k0 k1 q1 e
    rw [f_M_share_38] at e
    refine Go.run (pc' := 40) [.iload_n 3, .iconst 3] (ls' := [some (.ref a0), some (.ref a1), some (.int x2), some (.int x3), none]) (st' := [.int (3 : Int32), .int x3]) (by decide +kernel) rfl rfl ?_
    refine Go.ic_ge (off := 20) (tgt := 60) (by decide +kernel) (by decide) (fun c1 => ?_) (fun c1 => ?_)
    · replace e := ite_t c1 e
      refine Go.run (pc' := 63) [.iinc 2 (1)] (ls' := [some (.ref a0), some (.ref a1), some (.int (x2 + (1 : Int32))), some (.int x3), none]) (st' := []) (by decide +kernel) rfl rfl ?_
      refine Go.goto (off := -40) (tgt := 23) (by decide +kernel) (by decide) ?_
      refine Go.wk' (wks (wks (wks (wkn (wks wk0))))) ?_
      exact K23_ k0 k1 q1 e
    · replace e := ite_f c1 e
      refine Go.run (pc' := 44) [.aload_n 0] (ls' := [some (.ref a0), some (.ref a1), some (.int x2), some (.int x3), none]) (st' := [.ref a0]) (by decide +kernel) rfl rfl ?_
      refine Go.getR fo_M_35 k0 (by decide +kernel) ?_
      refine Go.run (pc' := 53) [.iconst 3, .iload_n 2, .imul, .iload_n 3, .iadd, .iconst (-1)] (ls' := [some (.ref a0), some (.ref a1), some (.int x2), some (.int x3), none]) (st' := [.int (-1 : Int32), .int (((3 : Int32) * x2) + x3), .ref (fld a0 10)]) (by decide +kernel) rfl rfl ?_
      obtain ⟨g2, e⟩ := gd_inv e
      refine Go.iast hI (kf_8_j 10 k0 (by decide) (by decide)) (al_8_j 10 k0 (by decide) (by decide) rfl) g2 (by decide +kernel) ?_
      obtain ⟨h3, q4, e⟩ := bd_inv e
      refine Go.eqH (Option.some.inj q4) ?_
      refine Go.run (pc' := 57) [.iinc 3 (1)] (ls' := [some (.ref a0), some (.ref a1), some (.int x2), some (.int (x3 + (1 : Int32))), none]) (st' := []) (by decide +kernel) rfl rfl ?_
      refine Go.goto (off := -19) (tgt := 38) (by decide +kernel) (by decide) ?_
      exact ih k0 k1 q1 e
def f_M_share_23  : Nat → Nat → Nat → Int32 → HP → Option (HP)
  | 0, _, _, _, _ => none
  | n + 1, a0, a1, x2, h =>
    if (10 : Int32) ≤ x2 then
      f_M_share_68 4096 a0 a1 (0 : Int32) h
    else
      if ib x2 10 = true then
      (some (hset h (fld a0 9) x2.toNatClampNeg (0 : Int32))).bind fun h3 =>
      f_M_share_38 (f_M_share_23 n) 4096 a0 a1 x2 (0 : Int32) h3
      else none
set_option maxHeartbeats 1000000 in
theorem x_M_share_23 {l : Launch} {D : va_G} {ad : Nat → Nat} {aC : Nat → ClassId} (hf : l.flags = flags0) (hI : Inj ad) : ∀ (n : Nat) {a0 : Nat} {a1 : Nat} {x2 : Int32} {h : HP} {r : HP}, knd a0 = 8 → knd a1 = 10 → alen a1 = 196 → f_M_share_23 n a0 a1 x2 h = some r → Go l D ad aC (rmk m_M_share) (QM D ad aC m_M_share (.inl none) r) m_M_share 23 [some (.ref a0), some (.ref a1), some (.int x2), none, none] [] h 0 0 := by
  intro n
  induction n with
  | zero => intro a0 a1 x2 h r k0 k1 q1 e; exact no_none e
  | succ n ih =>
    intro a0 a1 x2 h r k0 k1 q1 e
    rw [f_M_share_23] at e
    refine Go.run (pc' := 26) [.iload_n 2, .bipush (10)] (ls' := [some (.ref a0), some (.ref a1), some (.int x2), none, none]) (st' := [.int (10 : Int32), .int x2]) (by decide +kernel) rfl rfl ?_
    refine Go.ic_ge (off := 40) (tgt := 66) (by decide +kernel) (by decide) (fun c1 => ?_) (fun c1 => ?_)
    · replace e := ite_t c1 e
      refine Go.run (pc' := 68) [.iconst 0, .istore_n 2] (ls' := [some (.ref a0), some (.ref a1), some (.int (0 : Int32)), none, none]) (st' := []) (by decide +kernel) rfl rfl ?_
      exact x_M_share_68 hf hI 4096 k0 k1 q1 e
    · replace e := ite_f c1 e
      refine Go.run (pc' := 30) [.aload_n 0] (ls' := [some (.ref a0), some (.ref a1), some (.int x2), none, none]) (st' := [.ref a0]) (by decide +kernel) rfl rfl ?_
      refine Go.getR fo_M_32 k0 (by decide +kernel) ?_
      refine Go.run (pc' := 35) [.iload_n 2, .iconst 0] (ls' := [some (.ref a0), some (.ref a1), some (.int x2), none, none]) (st' := [.int (0 : Int32), .int x2, .ref (fld a0 9)]) (by decide +kernel) rfl rfl ?_
      obtain ⟨g2, e⟩ := gd_inv e
      refine Go.iast hI (kf_8_j 9 k0 (by decide) (by decide)) (al_8_j 9 k0 (by decide) (by decide) rfl) g2 (by decide +kernel) ?_
      obtain ⟨h3, q4, e⟩ := bd_inv e
      refine Go.eqH (Option.some.inj q4) ?_
      refine Go.run (pc' := 38) [.iconst 0, .istore_n 3] (ls' := [some (.ref a0), some (.ref a1), some (.int x2), some (.int (0 : Int32)), none]) (st' := []) (by decide +kernel) rfl rfl ?_
      exact x_M_share_38 hf hI (fun kk0 kk1 qq1 e => ih kk0 kk1 qq1 e) 4096 k0 k1 q1 e
def f_M_share_2  : Nat → Nat → Nat → Int32 → HP → Option (HP)
  | 0, _, _, _, _ => none
  | n + 1, a0, a1, x2, h =>
    if (120 : Int32) ≤ x2 then
      f_M_share_23 4096 a0 a1 (0 : Int32) h
    else
      if ib x2 120 = true then
      (some (hset h (fld a0 8) x2.toNatClampNeg (0 : Int32))).bind fun h3 =>
      f_M_share_2 n a0 a1 (x2 + (1 : Int32)) h3
      else none
set_option maxHeartbeats 1000000 in
theorem x_M_share_2 {l : Launch} {D : va_G} {ad : Nat → Nat} {aC : Nat → ClassId} (hf : l.flags = flags0) (hI : Inj ad) : ∀ (n : Nat) {a0 : Nat} {a1 : Nat} {x2 : Int32} {h : HP} {r : HP}, knd a0 = 8 → knd a1 = 10 → alen a1 = 196 → f_M_share_2 n a0 a1 x2 h = some r → Go l D ad aC (rmk m_M_share) (QM D ad aC m_M_share (.inl none) r) m_M_share 2 [some (.ref a0), some (.ref a1), some (.int x2), none, none] [] h 0 0 := by
  intro n
  induction n with
  | zero => intro a0 a1 x2 h r k0 k1 q1 e; exact no_none e
  | succ n ih =>
    intro a0 a1 x2 h r k0 k1 q1 e
    rw [f_M_share_2] at e
    refine Go.run (pc' := 5) [.iload_n 2, .bipush (120)] (ls' := [some (.ref a0), some (.ref a1), some (.int x2), none, none]) (st' := [.int (120 : Int32), .int x2]) (by decide +kernel) rfl rfl ?_
    refine Go.ic_ge (off := 16) (tgt := 21) (by decide +kernel) (by decide) (fun c1 => ?_) (fun c1 => ?_)
    · replace e := ite_t c1 e
      refine Go.run (pc' := 23) [.iconst 0, .istore_n 2] (ls' := [some (.ref a0), some (.ref a1), some (.int (0 : Int32)), none, none]) (st' := []) (by decide +kernel) rfl rfl ?_
      exact x_M_share_23 hf hI 4096 k0 k1 q1 e
    · replace e := ite_f c1 e
      refine Go.run (pc' := 9) [.aload_n 0] (ls' := [some (.ref a0), some (.ref a1), some (.int x2), none, none]) (st' := [.ref a0]) (by decide +kernel) rfl rfl ?_
      refine Go.getR fo_M_29 k0 (by decide +kernel) ?_
      refine Go.run (pc' := 14) [.iload_n 2, .iconst 0] (ls' := [some (.ref a0), some (.ref a1), some (.int x2), none, none]) (st' := [.int (0 : Int32), .int x2, .ref (fld a0 8)]) (by decide +kernel) rfl rfl ?_
      obtain ⟨g2, e⟩ := gd_inv e
      refine Go.iast hI (kf_8_j 8 k0 (by decide) (by decide)) (al_8_j 8 k0 (by decide) (by decide) rfl) g2 (by decide +kernel) ?_
      obtain ⟨h3, q4, e⟩ := bd_inv e
      refine Go.eqH (Option.some.inj q4) ?_
      refine Go.run (pc' := 18) [.iinc 2 (1)] (ls' := [some (.ref a0), some (.ref a1), some (.int (x2 + (1 : Int32))), none, none]) (st' := []) (by decide +kernel) rfl rfl ?_
      refine Go.goto (off := -16) (tgt := 2) (by decide +kernel) (by decide) ?_
      exact ih k0 k1 q1 e
def f_M_share (h : HP) (a0 : Nat) (a1 : Nat) : Option (HP) :=
  f_M_share_2 4096 a0 a1 (0 : Int32) h
set_option maxHeartbeats 1000000 in
theorem x_M_share {l : Launch} {D : va_G} {ad : Nat → Nat} {aC : Nat → ClassId} (hf : l.flags = flags0) (hI : Inj ad) {h : HP} {a0 : Nat} {a1 : Nat} {r : HP} (k0 : knd a0 = 8) (k1 : knd a1 = 10) (q1 : alen a1 = 196) (e : f_M_share h a0 a1 = some r) : CT l D ad aC m_M_share [.ref a0, .ref a1] h (.inl none) r := by
  refine CT.ofGo (by decide +kernel) rfl (Nat.le_of_ble_eq_true rfl) ?_
  unfold f_M_share at e
  show Go l D ad aC (rmk m_M_share) _ m_M_share 0 [some (.ref a0), some (.ref a1), none, none, none] [] h 0 0
  refine Go.run (pc' := 2) [.iconst 0, .istore_n 2] (ls' := [some (.ref a0), some (.ref a1), some (.int (0 : Int32)), none, none]) (st' := []) (by decide +kernel) rfl rfl ?_
  exact x_M_share_2 hf hI 4096 k0 k1 q1 e
def f_M_lacks (h : HP) (a0 : Nat) (a1 : Nat) (x2 : Int32) : Option (Int32) :=
  (f_M_stands h a1 x2).bind fun v1 =>
  if v1 = 0 then
    some (0 : Int32)
  else
    (f_M_spot h x2).bind fun v4 =>
    if ib (v4 + (2 : Int32)) 196 = true then
    if ib x2 10 = true then
    some ((h a1 (v4 + (2 : Int32)).toNatClampNeg) - (h (fld a0 9) x2.toNatClampNeg))
    else none
    else none
set_option maxHeartbeats 1000000 in
theorem x_M_lacks {l : Launch} {D : va_G} {ad : Nat → Nat} {aC : Nat → ClassId} (hf : l.flags = flags0) (hI : Inj ad) {h : HP} {a0 : Nat} {a1 : Nat} {x2 : Int32} {r : Int32} (k0 : knd a0 = 8) (k1 : knd a1 = 10) (q1 : alen a1 = 196) (e : f_M_lacks h a0 a1 x2 = some r) : CT l D ad aC m_M_lacks [.ref a0, .ref a1, .int x2] h (.inl (some (.int r))) h := by
  refine CT.ofGo (by decide +kernel) rfl (Nat.le_of_ble_eq_true rfl) ?_
  unfold f_M_lacks at e
  show Go l D ad aC (rmk m_M_lacks) _ m_M_lacks 0 [some (.ref a0), some (.ref a1), some (.int x2)] [] h 0 0
  refine Go.run (pc' := 2) [.aload_n 1, .iload_n 2] (ls' := [some (.ref a0), some (.ref a1), some (.int x2)]) (st' := [.int x2, .ref a1]) (by decide +kernel) rfl rfl ?_
  obtain ⟨v1, e2, e⟩ := bd_inv e
  refine Go.callS (M2 := m_M_stands) (as := [.ref a1, .int x2]) (rest := []) (v := some (.int v1)) (h1 := h) (x_M_stands hf hI k1 q1 e2) ws_M_89 (by decide +kernel) rfl rfl ⟨⟨Nat.le_of_ble_eq_true rfl, Nat.le_of_ble_eq_true rfl⟩, ⟨Nat.le_of_ble_eq_true rfl, Nat.le_of_ble_eq_true rfl⟩⟩ (Nat.le_of_ble_eq_true rfl) ?_
  show Go l D ad aC (rmk m_M_lacks) _ m_M_lacks 5 [some (.ref a0), some (.ref a1), some (.int x2)] [.int v1] h 0 0
  refine Go.if_eq (off := 21) (tgt := 26) (by decide +kernel) (by decide) (fun c3 => ?_) (fun c3 => ?_)
  · replace e := ite_t c3 e
    refine Go.run (pc' := 27) [.iconst 0] (ls' := [some (.ref a0), some (.ref a1), some (.int x2)]) (st' := [.int (0 : Int32)]) (by decide +kernel) rfl rfl ?_
    obtain rfl := Option.some.inj e
    exact Go.iret rfl (by decide) (by decide) (by decide +kernel)
  · replace e := ite_f c3 e
    refine Go.run (pc' := 10) [.aload_n 1, .iload_n 2] (ls' := [some (.ref a0), some (.ref a1), some (.int x2)]) (st' := [.int x2, .ref a1]) (by decide +kernel) rfl rfl ?_
    obtain ⟨v4, e5, e⟩ := bd_inv e
    refine Go.callS (M2 := m_M_spot) (as := [.int x2]) (rest := [.ref a1]) (v := some (.int v4)) (h1 := h) (x_M_spot hf hI  e5) ws_M_71 (by decide +kernel) rfl rfl ⟨⟨Nat.le_of_ble_eq_true rfl, Nat.le_of_ble_eq_true rfl⟩, ⟨Nat.le_of_ble_eq_true rfl, Nat.le_of_ble_eq_true rfl⟩⟩ (Nat.le_of_ble_eq_true rfl) ?_
    show Go l D ad aC (rmk m_M_lacks) _ m_M_lacks 13 [some (.ref a0), some (.ref a1), some (.int x2)] [.int v4, .ref a1] h 0 0
    refine Go.run (pc' := 15) [.iconst 2, .iadd] (ls' := [some (.ref a0), some (.ref a1), some (.int x2)]) (st' := [.int (v4 + (2 : Int32)), .ref a1]) (by decide +kernel) rfl rfl ?_
    obtain ⟨g6, e⟩ := gd_inv e
    refine Go.iald k1 q1 g6 (by decide +kernel) ?_
    refine Go.run (pc' := 17) [.aload_n 0] (ls' := [some (.ref a0), some (.ref a1), some (.int x2)]) (st' := [.ref a0, .int (h a1 (v4 + (2 : Int32)).toNatClampNeg)]) (by decide +kernel) rfl rfl ?_
    refine Go.getR fo_M_32 k0 (by decide +kernel) ?_
    refine Go.run (pc' := 21) [.iload_n 2] (ls' := [some (.ref a0), some (.ref a1), some (.int x2)]) (st' := [.int x2, .ref (fld a0 9), .int (h a1 (v4 + (2 : Int32)).toNatClampNeg)]) (by decide +kernel) rfl rfl ?_
    obtain ⟨g7, e⟩ := gd_inv e
    refine Go.iald (kf_8_j 9 k0 (by decide) (by decide)) (al_8_j 9 k0 (by decide) (by decide) rfl) g7 (by decide +kernel) ?_
    refine Go.run (pc' := 23) [.isub] (ls' := [some (.ref a0), some (.ref a1), some (.int x2)]) (st' := [.int ((h a1 (v4 + (2 : Int32)).toNatClampNeg) - (h (fld a0 9) x2.toNatClampNeg))]) (by decide +kernel) rfl rfl ?_
    refine Go.goto (off := 4) (tgt := 27) (by decide +kernel) (by decide) ?_
    obtain rfl := Option.some.inj e
    exact Go.iret rfl (by decide) (by decide) (by decide +kernel)
def f_M_areBeside_86 (h : HP)   : Option (Int32) :=
  some (1 : Int32)
set_option maxHeartbeats 1000000 in
theorem x_M_areBeside_86 {l : Launch} {D : va_G} {ad : Nat → Nat} {aC : Nat → ClassId} (hf : l.flags = flags0) (hI : Inj ad) {h : HP}  {r : Int32}  (e : f_M_areBeside_86 h  = some r) : Go l D ad aC (rmk m_M_areBeside) (QM D ad aC m_M_areBeside (.inl (some (.int r))) h) m_M_areBeside 86 [none, none, none, none, none, none] [] h 0 0 := by
  unfold f_M_areBeside_86 at e
  refine Go.run (pc' := 87) [.iconst 1] (ls' := [none, none, none, none, none, none]) (st' := [.int (1 : Int32)]) (by decide +kernel) rfl rfl ?_
  refine Go.goto (off := 4) (tgt := 91) (by decide +kernel) (by decide) ?_
  obtain rfl := Option.some.inj e
  exact Go.zret rfl nar_z1 (by decide) (by decide) (by decide +kernel)
def f_M_areBeside_38 (h : HP)  (a0 : Nat) (x3 : Int32) (x4 : Int32) (s0 : Int32) : Option (Int32) :=
  if s0 = 0 then
    some (0 : Int32)
  else
    if ib (x3 + (4 : Int32)) 196 = true then
    if ib (x3 + (1 : Int32)) 196 = true then
    if ib (x4 + (4 : Int32)) 196 = true then
    if ((h a0 (x3 + (4 : Int32)).toNatClampNeg) + (h a0 (x3 + (1 : Int32)).toNatClampNeg)) = (h a0 (x4 + (4 : Int32)).toNatClampNeg) then
      f_M_areBeside_86 h 
    else
      if ib (x4 + (4 : Int32)) 196 = true then
      if ib (x4 + (1 : Int32)) 196 = true then
      if ib (x3 + (4 : Int32)) 196 = true then
      if ((h a0 (x4 + (4 : Int32)).toNatClampNeg) + (h a0 (x4 + (1 : Int32)).toNatClampNeg)) = (h a0 (x3 + (4 : Int32)).toNatClampNeg) then
        f_M_areBeside_86 h 
      else
        some (0 : Int32)
      else none
      else none
      else none
    else none
    else none
    else none
set_option maxHeartbeats 1000000 in
theorem x_M_areBeside_38 {l : Launch} {D : va_G} {ad : Nat → Nat} {aC : Nat → ClassId} (hf : l.flags = flags0) (hI : Inj ad) {h : HP} {a0 : Nat} {x3 : Int32} {x4 : Int32} {s0 : Int32} {r : Int32} (k0 : knd a0 = 10) (q0 : alen a0 = 196) (e : f_M_areBeside_38 h a0 x3 x4 s0 = some r) : Go l D ad aC (rmk m_M_areBeside) (QM D ad aC m_M_areBeside (.inl (some (.int r))) h) m_M_areBeside 38 [some (.ref a0), none, none, some (.int x3), some (.int x4), none] [.int s0] h 0 0 := by
  unfold f_M_areBeside_38 at e
  refine Go.run (pc' := 42) [.istore 5, .iload 5] (ls' := [some (.ref a0), none, none, some (.int x3), some (.int x4), some (.int s0)]) (st' := [.int s0]) (by decide +kernel) rfl rfl ?_
  refine Go.if_eq (off := 48) (tgt := 90) (by decide +kernel) (by decide) (fun c1 => ?_) (fun c1 => ?_)
  · replace e := ite_t c1 e
    refine Go.run (pc' := 91) [.iconst 0] (ls' := [some (.ref a0), none, none, some (.int x3), some (.int x4), some (.int s0)]) (st' := [.int (0 : Int32)]) (by decide +kernel) rfl rfl ?_
    obtain rfl := Option.some.inj e
    exact Go.zret rfl nar_z0 (by decide) (by decide) (by decide +kernel)
  · replace e := ite_f c1 e
    refine Go.run (pc' := 49) [.aload_n 0, .iload_n 3, .iconst 4, .iadd] (ls' := [some (.ref a0), none, none, some (.int x3), some (.int x4), some (.int s0)]) (st' := [.int (x3 + (4 : Int32)), .ref a0]) (by decide +kernel) rfl rfl ?_
    obtain ⟨g2, e⟩ := gd_inv e
    refine Go.iald k0 q0 g2 (by decide +kernel) ?_
    refine Go.run (pc' := 54) [.aload_n 0, .iload_n 3, .iconst 1, .iadd] (ls' := [some (.ref a0), none, none, some (.int x3), some (.int x4), some (.int s0)]) (st' := [.int (x3 + (1 : Int32)), .ref a0, .int (h a0 (x3 + (4 : Int32)).toNatClampNeg)]) (by decide +kernel) rfl rfl ?_
    obtain ⟨g3, e⟩ := gd_inv e
    refine Go.iald k0 q0 g3 (by decide +kernel) ?_
    refine Go.run (pc' := 61) [.iadd, .aload_n 0, .iload 4, .iconst 4, .iadd] (ls' := [some (.ref a0), none, none, some (.int x3), some (.int x4), some (.int s0)]) (st' := [.int (x4 + (4 : Int32)), .ref a0, .int ((h a0 (x3 + (4 : Int32)).toNatClampNeg) + (h a0 (x3 + (1 : Int32)).toNatClampNeg))]) (by decide +kernel) rfl rfl ?_
    obtain ⟨g4, e⟩ := gd_inv e
    refine Go.iald k0 q0 g4 (by decide +kernel) ?_
    refine Go.ic_eq (off := 24) (tgt := 86) (by decide +kernel) (by decide) (fun c5 => ?_) (fun c5 => ?_)
    · replace e := ite_t c5 e
      refine Go.wk' (wkn (wks (wks (wkn (wkn (wkn wk0)))))) ?_
      exact x_M_areBeside_86 hf hI  e
    · replace e := ite_f c5 e
      refine Go.run (pc' := 70) [.aload_n 0, .iload 4, .iconst 4, .iadd] (ls' := [some (.ref a0), none, none, some (.int x3), some (.int x4), some (.int s0)]) (st' := [.int (x4 + (4 : Int32)), .ref a0]) (by decide +kernel) rfl rfl ?_
      obtain ⟨g6, e⟩ := gd_inv e
      refine Go.iald k0 q0 g6 (by decide +kernel) ?_
      refine Go.run (pc' := 76) [.aload_n 0, .iload 4, .iconst 1, .iadd] (ls' := [some (.ref a0), none, none, some (.int x3), some (.int x4), some (.int s0)]) (st' := [.int (x4 + (1 : Int32)), .ref a0, .int (h a0 (x4 + (4 : Int32)).toNatClampNeg)]) (by decide +kernel) rfl rfl ?_
      obtain ⟨g7, e⟩ := gd_inv e
      refine Go.iald k0 q0 g7 (by decide +kernel) ?_
      refine Go.run (pc' := 82) [.iadd, .aload_n 0, .iload_n 3, .iconst 4, .iadd] (ls' := [some (.ref a0), none, none, some (.int x3), some (.int x4), some (.int s0)]) (st' := [.int (x3 + (4 : Int32)), .ref a0, .int ((h a0 (x4 + (4 : Int32)).toNatClampNeg) + (h a0 (x4 + (1 : Int32)).toNatClampNeg))]) (by decide +kernel) rfl rfl ?_
      obtain ⟨g8, e⟩ := gd_inv e
      refine Go.iald k0 q0 g8 (by decide +kernel) ?_
      refine Go.ic_ne (off := 7) (tgt := 90) (by decide +kernel) (by decide) (fun c9 => ?_) (fun c9 => ?_)
      · replace e := ite_f c9 e
        refine Go.run (pc' := 91) [.iconst 0] (ls' := [some (.ref a0), none, none, some (.int x3), some (.int x4), some (.int s0)]) (st' := [.int (0 : Int32)]) (by decide +kernel) rfl rfl ?_
        obtain rfl := Option.some.inj e
        exact Go.zret rfl nar_z0 (by decide) (by decide) (by decide +kernel)
      · replace e := ite_t c9 e
        refine Go.wk' (wkn (wks (wks (wkn (wkn (wkn wk0)))))) ?_
        exact x_M_areBeside_86 hf hI  e
def f_M_areBeside_37 (h : HP)  (a0 : Nat) (x3 : Int32) (x4 : Int32) : Option (Int32) :=
  f_M_areBeside_38 h a0 x3 x4 (0 : Int32)
set_option maxHeartbeats 1000000 in
theorem x_M_areBeside_37 {l : Launch} {D : va_G} {ad : Nat → Nat} {aC : Nat → ClassId} (hf : l.flags = flags0) (hI : Inj ad) {h : HP} {a0 : Nat} {x3 : Int32} {x4 : Int32} {r : Int32} (k0 : knd a0 = 10) (q0 : alen a0 = 196) (e : f_M_areBeside_37 h a0 x3 x4 = some r) : Go l D ad aC (rmk m_M_areBeside) (QM D ad aC m_M_areBeside (.inl (some (.int r))) h) m_M_areBeside 37 [some (.ref a0), none, none, some (.int x3), some (.int x4), none] [] h 0 0 := by
  unfold f_M_areBeside_37 at e
  refine Go.run (pc' := 38) [.iconst 0] (ls' := [some (.ref a0), none, none, some (.int x3), some (.int x4), none]) (st' := [.int (0 : Int32)]) (by decide +kernel) rfl rfl ?_
  exact x_M_areBeside_38 hf hI k0 q0 e
def f_M_areBeside (h : HP) (a0 : Nat) (x1 : Int32) (x2 : Int32) : Option (Int32) :=
  (f_M_spot h x1).bind fun v1 =>
  (f_M_spot h x2).bind fun v3 =>
  (f_M_stands h a0 x1).bind fun v5 =>
  if v5 = 0 then
    f_M_areBeside_37 h a0 v1 v3
  else
    if ib (v1 + (3 : Int32)) 196 = true then
    if ib (v3 + (3 : Int32)) 196 = true then
    if (h a0 (v1 + (3 : Int32)).toNatClampNeg) = (h a0 (v3 + (3 : Int32)).toNatClampNeg) then
      f_M_areBeside_38 h a0 v1 v3 (1 : Int32)
    else
      f_M_areBeside_37 h a0 v1 v3
    else none
    else none
set_option maxHeartbeats 1000000 in
theorem x_M_areBeside {l : Launch} {D : va_G} {ad : Nat → Nat} {aC : Nat → ClassId} (hf : l.flags = flags0) (hI : Inj ad) {h : HP} {a0 : Nat} {x1 : Int32} {x2 : Int32} {r : Int32} (k0 : knd a0 = 10) (q0 : alen a0 = 196) (e : f_M_areBeside h a0 x1 x2 = some r) : CT l D ad aC m_M_areBeside [.ref a0, .int x1, .int x2] h (.inl (some (.int r))) h := by
  refine CT.ofGo (by decide +kernel) rfl (Nat.le_of_ble_eq_true rfl) ?_
  unfold f_M_areBeside at e
  show Go l D ad aC (rmk m_M_areBeside) _ m_M_areBeside 0 [some (.ref a0), some (.int x1), some (.int x2), none, none, none] [] h 0 0
  refine Go.run (pc' := 1) [.iload_n 1] (ls' := [some (.ref a0), some (.int x1), some (.int x2), none, none, none]) (st' := [.int x1]) (by decide +kernel) rfl rfl ?_
  obtain ⟨v1, e2, e⟩ := bd_inv e
  refine Go.callS (M2 := m_M_spot) (as := [.int x1]) (rest := []) (v := some (.int v1)) (h1 := h) (x_M_spot hf hI  e2) ws_M_71 (by decide +kernel) rfl rfl ⟨⟨Nat.le_of_ble_eq_true rfl, Nat.le_of_ble_eq_true rfl⟩, ⟨Nat.le_of_ble_eq_true rfl, Nat.le_of_ble_eq_true rfl⟩⟩ (Nat.le_of_ble_eq_true rfl) ?_
  show Go l D ad aC (rmk m_M_areBeside) _ m_M_areBeside 4 [some (.ref a0), some (.int x1), some (.int x2), none, none, none] [.int v1] h 0 0
  refine Go.run (pc' := 6) [.istore_n 3, .iload_n 2] (ls' := [some (.ref a0), some (.int x1), some (.int x2), some (.int v1), none, none]) (st' := [.int x2]) (by decide +kernel) rfl rfl ?_
  obtain ⟨v3, e4, e⟩ := bd_inv e
  refine Go.callS (M2 := m_M_spot) (as := [.int x2]) (rest := []) (v := some (.int v3)) (h1 := h) (x_M_spot hf hI  e4) ws_M_71 (by decide +kernel) rfl rfl ⟨⟨Nat.le_of_ble_eq_true rfl, Nat.le_of_ble_eq_true rfl⟩, ⟨Nat.le_of_ble_eq_true rfl, Nat.le_of_ble_eq_true rfl⟩⟩ (Nat.le_of_ble_eq_true rfl) ?_
  show Go l D ad aC (rmk m_M_areBeside) _ m_M_areBeside 9 [some (.ref a0), some (.int x1), some (.int x2), some (.int v1), none, none] [.int v3] h 0 0
  refine Go.run (pc' := 13) [.istore 4, .aload_n 0, .iload_n 1] (ls' := [some (.ref a0), some (.int x1), some (.int x2), some (.int v1), some (.int v3), none]) (st' := [.int x1, .ref a0]) (by decide +kernel) rfl rfl ?_
  obtain ⟨v5, e6, e⟩ := bd_inv e
  refine Go.callS (M2 := m_M_stands) (as := [.ref a0, .int x1]) (rest := []) (v := some (.int v5)) (h1 := h) (x_M_stands hf hI k0 q0 e6) ws_M_89 (by decide +kernel) rfl rfl ⟨⟨Nat.le_of_ble_eq_true rfl, Nat.le_of_ble_eq_true rfl⟩, ⟨Nat.le_of_ble_eq_true rfl, Nat.le_of_ble_eq_true rfl⟩⟩ (Nat.le_of_ble_eq_true rfl) ?_
  show Go l D ad aC (rmk m_M_areBeside) _ m_M_areBeside 16 [some (.ref a0), some (.int x1), some (.int x2), some (.int v1), some (.int v3), none] [.int v5] h 0 0
  refine Go.if_eq (off := 21) (tgt := 37) (by decide +kernel) (by decide) (fun c7 => ?_) (fun c7 => ?_)
  · replace e := ite_t c7 e
    refine Go.wk' (wks (wkn (wkn (wks (wks (wks wk0)))))) ?_
    exact x_M_areBeside_37 hf hI k0 q0 e
  · replace e := ite_f c7 e
    refine Go.run (pc' := 23) [.aload_n 0, .iload_n 3, .iconst 3, .iadd] (ls' := [some (.ref a0), some (.int x1), some (.int x2), some (.int v1), some (.int v3), none]) (st' := [.int (v1 + (3 : Int32)), .ref a0]) (by decide +kernel) rfl rfl ?_
    obtain ⟨g8, e⟩ := gd_inv e
    refine Go.iald k0 q0 g8 (by decide +kernel) ?_
    refine Go.run (pc' := 29) [.aload_n 0, .iload 4, .iconst 3, .iadd] (ls' := [some (.ref a0), some (.int x1), some (.int x2), some (.int v1), some (.int v3), none]) (st' := [.int (v3 + (3 : Int32)), .ref a0, .int (h a0 (v1 + (3 : Int32)).toNatClampNeg)]) (by decide +kernel) rfl rfl ?_
    obtain ⟨g9, e⟩ := gd_inv e
    refine Go.iald k0 q0 g9 (by decide +kernel) ?_
    refine Go.ic_ne (off := 7) (tgt := 37) (by decide +kernel) (by decide) (fun c10 => ?_) (fun c10 => ?_)
    · replace e := ite_f c10 e
      refine Go.wk' (wks (wkn (wkn (wks (wks (wks wk0)))))) ?_
      exact x_M_areBeside_37 hf hI k0 q0 e
    · replace e := ite_t c10 e
      refine Go.run (pc' := 34) [.iconst 1] (ls' := [some (.ref a0), some (.int x1), some (.int x2), some (.int v1), some (.int v3), none]) (st' := [.int (1 : Int32)]) (by decide +kernel) rfl rfl ?_
      refine Go.goto (off := 4) (tgt := 38) (by decide +kernel) (by decide) ?_
      refine Go.wk' (wks (wkn (wkn (wks (wks (wks wk0)))))) ?_
      exact x_M_areBeside_38 hf hI k0 q0 e
def f_M_neighbours_73 (h : HP) (k5_ : Nat → Int32 → Int32 → Int32 → Int32 → Option (Int32)) (a0 : Nat) (x1 : Int32) (x2 : Int32) (x4 : Int32) (s0 : Int32) (s1 : Int32) : Option (Int32) :=
  k5_ a0 x1 x2 (s0 + s1) (x4 + (1 : Int32))
set_option maxHeartbeats 1000000 in
theorem x_M_neighbours_73 {l : Launch} {D : va_G} {ad : Nat → Nat} {aC : Nat → ClassId} (hf : l.flags = flags0) (hI : Inj ad) {h : HP} {k5_ : Nat → Int32 → Int32 → Int32 → Int32 → Option (Int32)} (K5_ : ∀ {a0 : Nat} {x1 : Int32} {x2 : Int32} {x3 : Int32} {x4 : Int32} {r : Int32}, knd a0 = 10 → alen a0 = 196 → k5_ a0 x1 x2 x3 x4 = some r → Go l D ad aC (rmk m_M_neighbours) (QM D ad aC m_M_neighbours (.inl (some (.int r))) h) m_M_neighbours 5 [some (.ref a0), some (.int x1), some (.int x2), some (.int x3), some (.int x4), none] [] h 0 0) {a0 : Nat} {x1 : Int32} {x2 : Int32} {x4 : Int32} {s0 : Int32} {s1 : Int32} {r : Int32} (k0 : knd a0 = 10) (q0 : alen a0 = 196) (e : f_M_neighbours_73 h k5_ a0 x1 x2 x4 s0 s1 = some r) : Go l D ad aC (rmk m_M_neighbours) (QM D ad aC m_M_neighbours (.inl (some (.int r))) h) m_M_neighbours 73 [some (.ref a0), some (.int x1), some (.int x2), none, some (.int x4), none] [.int s1, .int s0] h 0 0 := by
  unfold f_M_neighbours_73 at e
  refine Go.run (pc' := 78) [.iadd, .istore_n 3, .iinc 4 (1)] (ls' := [some (.ref a0), some (.int x1), some (.int x2), some (.int (s0 + s1)), some (.int (x4 + (1 : Int32))), none]) (st' := []) (by decide +kernel) rfl rfl ?_
  refine Go.goto (off := -73) (tgt := 5) (by decide +kernel) (by decide) ?_
  exact K5_ k0 q0 e
def f_M_neighbours_72 (h : HP) (k5_ : Nat → Int32 → Int32 → Int32 → Int32 → Option (Int32)) (a0 : Nat) (x1 : Int32) (x2 : Int32) (x4 : Int32) (s0 : Int32) : Option (Int32) :=
  f_M_neighbours_73 h k5_ a0 x1 x2 x4 s0 (0 : Int32)
set_option maxHeartbeats 1000000 in
theorem x_M_neighbours_72 {l : Launch} {D : va_G} {ad : Nat → Nat} {aC : Nat → ClassId} (hf : l.flags = flags0) (hI : Inj ad) {h : HP} {k5_ : Nat → Int32 → Int32 → Int32 → Int32 → Option (Int32)} (K5_ : ∀ {a0 : Nat} {x1 : Int32} {x2 : Int32} {x3 : Int32} {x4 : Int32} {r : Int32}, knd a0 = 10 → alen a0 = 196 → k5_ a0 x1 x2 x3 x4 = some r → Go l D ad aC (rmk m_M_neighbours) (QM D ad aC m_M_neighbours (.inl (some (.int r))) h) m_M_neighbours 5 [some (.ref a0), some (.int x1), some (.int x2), some (.int x3), some (.int x4), none] [] h 0 0) {a0 : Nat} {x1 : Int32} {x2 : Int32} {x4 : Int32} {s0 : Int32} {r : Int32} (k0 : knd a0 = 10) (q0 : alen a0 = 196) (e : f_M_neighbours_72 h k5_ a0 x1 x2 x4 s0 = some r) : Go l D ad aC (rmk m_M_neighbours) (QM D ad aC m_M_neighbours (.inl (some (.int r))) h) m_M_neighbours 72 [some (.ref a0), some (.int x1), some (.int x2), none, some (.int x4), none] [.int s0] h 0 0 := by
  unfold f_M_neighbours_72 at e
  refine Go.run (pc' := 73) [.iconst 0] (ls' := [some (.ref a0), some (.int x1), some (.int x2), none, some (.int x4), none]) (st' := [.int (0 : Int32), .int s0]) (by decide +kernel) rfl rfl ?_
  exact x_M_neighbours_73 hf hI K5_ k0 q0 e
def f_M_neighbours_44 (h : HP) (k5_ : Nat → Int32 → Int32 → Int32 → Int32 → Option (Int32)) (a0 : Nat) (x1 : Int32) (x2 : Int32) (x3 : Int32) (x4 : Int32) (s0 : Int32) : Option (Int32) :=
  if x4 = x1 then
    f_M_neighbours_72 h k5_ a0 x1 x2 x4 x3
  else
    if s0 = 0 then
      f_M_neighbours_72 h k5_ a0 x1 x2 x4 x3
    else
      (f_M_areBeside h a0 x1 x4).bind fun v3 =>
      if v3 = 0 then
        f_M_neighbours_72 h k5_ a0 x1 x2 x4 x3
      else
        f_M_neighbours_73 h k5_ a0 x1 x2 x4 x3 (1 : Int32)
set_option maxHeartbeats 1000000 in
theorem x_M_neighbours_44 {l : Launch} {D : va_G} {ad : Nat → Nat} {aC : Nat → ClassId} (hf : l.flags = flags0) (hI : Inj ad) {h : HP} {k5_ : Nat → Int32 → Int32 → Int32 → Int32 → Option (Int32)} (K5_ : ∀ {a0 : Nat} {x1 : Int32} {x2 : Int32} {x3 : Int32} {x4 : Int32} {r : Int32}, knd a0 = 10 → alen a0 = 196 → k5_ a0 x1 x2 x3 x4 = some r → Go l D ad aC (rmk m_M_neighbours) (QM D ad aC m_M_neighbours (.inl (some (.int r))) h) m_M_neighbours 5 [some (.ref a0), some (.int x1), some (.int x2), some (.int x3), some (.int x4), none] [] h 0 0) {a0 : Nat} {x1 : Int32} {x2 : Int32} {x3 : Int32} {x4 : Int32} {s0 : Int32} {r : Int32} (k0 : knd a0 = 10) (q0 : alen a0 = 196) (e : f_M_neighbours_44 h k5_ a0 x1 x2 x3 x4 s0 = some r) : Go l D ad aC (rmk m_M_neighbours) (QM D ad aC m_M_neighbours (.inl (some (.int r))) h) m_M_neighbours 44 [some (.ref a0), some (.int x1), some (.int x2), some (.int x3), some (.int x4), none] [.int s0] h 0 0 := by
  unfold f_M_neighbours_44 at e
  refine Go.run (pc' := 50) [.istore 5, .iload_n 3, .iload 4, .iload_n 1] (ls' := [some (.ref a0), some (.int x1), some (.int x2), some (.int x3), some (.int x4), some (.int s0)]) (st' := [.int x1, .int x4, .int x3]) (by decide +kernel) rfl rfl ?_
  refine Go.ic_eq (off := 22) (tgt := 72) (by decide +kernel) (by decide) (fun c1 => ?_) (fun c1 => ?_)
  · replace e := ite_t c1 e
    refine Go.wk' (wks (wks (wks (wkn (wks (wkn wk0)))))) ?_
    exact x_M_neighbours_72 hf hI K5_ k0 q0 e
  · replace e := ite_f c1 e
    refine Go.run (pc' := 55) [.iload 5] (ls' := [some (.ref a0), some (.int x1), some (.int x2), some (.int x3), some (.int x4), some (.int s0)]) (st' := [.int s0, .int x3]) (by decide +kernel) rfl rfl ?_
    refine Go.if_eq (off := 17) (tgt := 72) (by decide +kernel) (by decide) (fun c2 => ?_) (fun c2 => ?_)
    · replace e := ite_t c2 e
      refine Go.wk' (wks (wks (wks (wkn (wks (wkn wk0)))))) ?_
      exact x_M_neighbours_72 hf hI K5_ k0 q0 e
    · replace e := ite_f c2 e
      refine Go.run (pc' := 62) [.aload_n 0, .iload_n 1, .iload 4] (ls' := [some (.ref a0), some (.int x1), some (.int x2), some (.int x3), some (.int x4), some (.int s0)]) (st' := [.int x4, .int x1, .ref a0, .int x3]) (by decide +kernel) rfl rfl ?_
      obtain ⟨v3, e4, e⟩ := bd_inv e
      refine Go.callS (M2 := m_M_areBeside) (as := [.ref a0, .int x1, .int x4]) (rest := [.int x3]) (v := some (.int v3)) (h1 := h) (x_M_areBeside hf hI k0 q0 e4) ws_M_95 (by decide +kernel) rfl rfl ⟨⟨Nat.le_of_ble_eq_true rfl, Nat.le_of_ble_eq_true rfl⟩, ⟨Nat.le_of_ble_eq_true rfl, Nat.le_of_ble_eq_true rfl⟩⟩ (Nat.le_of_ble_eq_true rfl) ?_
      show Go l D ad aC (rmk m_M_neighbours) _ m_M_neighbours 65 [some (.ref a0), some (.int x1), some (.int x2), some (.int x3), some (.int x4), some (.int s0)] [.int v3, .int x3] h 0 0
      refine Go.if_eq (off := 7) (tgt := 72) (by decide +kernel) (by decide) (fun c5 => ?_) (fun c5 => ?_)
      · replace e := ite_t c5 e
        refine Go.wk' (wks (wks (wks (wkn (wks (wkn wk0)))))) ?_
        exact x_M_neighbours_72 hf hI K5_ k0 q0 e
      · replace e := ite_f c5 e
        refine Go.run (pc' := 69) [.iconst 1] (ls' := [some (.ref a0), some (.int x1), some (.int x2), some (.int x3), some (.int x4), some (.int s0)]) (st' := [.int (1 : Int32), .int x3]) (by decide +kernel) rfl rfl ?_
        refine Go.goto (off := 4) (tgt := 73) (by decide +kernel) (by decide) ?_
        refine Go.wk' (wks (wks (wks (wkn (wks (wkn wk0)))))) ?_
        exact x_M_neighbours_73 hf hI K5_ k0 q0 e
def f_M_neighbours_39 (h : HP) (k5_ : Nat → Int32 → Int32 → Int32 → Int32 → Option (Int32)) (a0 : Nat) (x1 : Int32) (x2 : Int32) (x3 : Int32) (x4 : Int32) : Option (Int32) :=
  f_M_neighbours_44 h k5_ a0 x1 x2 x3 x4 (1 : Int32)
set_option maxHeartbeats 1000000 in
theorem x_M_neighbours_39 {l : Launch} {D : va_G} {ad : Nat → Nat} {aC : Nat → ClassId} (hf : l.flags = flags0) (hI : Inj ad) {h : HP} {k5_ : Nat → Int32 → Int32 → Int32 → Int32 → Option (Int32)} (K5_ : ∀ {a0 : Nat} {x1 : Int32} {x2 : Int32} {x3 : Int32} {x4 : Int32} {r : Int32}, knd a0 = 10 → alen a0 = 196 → k5_ a0 x1 x2 x3 x4 = some r → Go l D ad aC (rmk m_M_neighbours) (QM D ad aC m_M_neighbours (.inl (some (.int r))) h) m_M_neighbours 5 [some (.ref a0), some (.int x1), some (.int x2), some (.int x3), some (.int x4), none] [] h 0 0) {a0 : Nat} {x1 : Int32} {x2 : Int32} {x3 : Int32} {x4 : Int32} {r : Int32} (k0 : knd a0 = 10) (q0 : alen a0 = 196) (e : f_M_neighbours_39 h k5_ a0 x1 x2 x3 x4 = some r) : Go l D ad aC (rmk m_M_neighbours) (QM D ad aC m_M_neighbours (.inl (some (.int r))) h) m_M_neighbours 39 [some (.ref a0), some (.int x1), some (.int x2), some (.int x3), some (.int x4), none] [] h 0 0 := by
  unfold f_M_neighbours_39 at e
  refine Go.run (pc' := 40) [.iconst 1] (ls' := [some (.ref a0), some (.int x1), some (.int x2), some (.int x3), some (.int x4), none]) (st' := [.int (1 : Int32)]) (by decide +kernel) rfl rfl ?_
  refine Go.goto (off := 4) (tgt := 44) (by decide +kernel) (by decide) ?_
  exact x_M_neighbours_44 hf hI K5_ k0 q0 e
def f_M_neighbours_5 (h : HP)  : Nat → Nat → Int32 → Int32 → Int32 → Int32 → Option (Int32)
  | 0, _, _, _, _, _ => none
  | n + 1, a0, x1, x2, x3, x4 =>
    if ib (185 : Int32) 196 = true then
    if (h a0 (185 : Int32).toNatClampNeg) ≤ x4 then
      some x3
    else
      if x2 = 0 then
        f_M_neighbours_39 h (f_M_neighbours_5 h n) a0 x1 x2 x3 x4
      else
        (f_M_spot h x4).bind fun v4 =>
        if ib (v4 + (0 : Int32)) 196 = true then
        (f_M_spot h x1).bind fun v7 =>
        if ib (v7 + (0 : Int32)) 196 = true then
        if (h a0 (v4 + (0 : Int32)).toNatClampNeg) = (h a0 (v7 + (0 : Int32)).toNatClampNeg) then
          f_M_neighbours_39 h (f_M_neighbours_5 h n) a0 x1 x2 x3 x4
        else
          f_M_neighbours_44 h (f_M_neighbours_5 h n) a0 x1 x2 x3 x4 (0 : Int32)
        else none
        else none
    else none
set_option maxHeartbeats 1000000 in
theorem x_M_neighbours_5 {l : Launch} {D : va_G} {ad : Nat → Nat} {aC : Nat → ClassId} (hf : l.flags = flags0) (hI : Inj ad) {h : HP} : ∀ (n : Nat) {a0 : Nat} {x1 : Int32} {x2 : Int32} {x3 : Int32} {x4 : Int32} {r : Int32}, knd a0 = 10 → alen a0 = 196 → f_M_neighbours_5 h n a0 x1 x2 x3 x4 = some r → Go l D ad aC (rmk m_M_neighbours) (QM D ad aC m_M_neighbours (.inl (some (.int r))) h) m_M_neighbours 5 [some (.ref a0), some (.int x1), some (.int x2), some (.int x3), some (.int x4), none] [] h 0 0 := by
  intro n
  induction n with
  | zero => intro a0 x1 x2 x3 x4 r k0 q0 e; exact no_none e
  | succ n ih =>
    intro a0 x1 x2 x3 x4 r k0 q0 e
    rw [f_M_neighbours_5] at e
    refine Go.run (pc' := 11) [.iload 4, .aload_n 0, .sipush (185)] (ls' := [some (.ref a0), some (.int x1), some (.int x2), some (.int x3), some (.int x4), none]) (st' := [.int (185 : Int32), .ref a0, .int x4]) (by decide +kernel) rfl rfl ?_
    obtain ⟨g1, e⟩ := gd_inv e
    refine Go.iald k0 q0 g1 (by decide +kernel) ?_
    refine Go.ic_ge (off := 69) (tgt := 81) (by decide +kernel) (by decide) (fun c2 => ?_) (fun c2 => ?_)
    · replace e := ite_t c2 e
      refine Go.run (pc' := 82) [.iload_n 3] (ls' := [some (.ref a0), some (.int x1), some (.int x2), some (.int x3), some (.int x4), none]) (st' := [.int x3]) (by decide +kernel) rfl rfl ?_
      obtain rfl := Option.some.inj e
      exact Go.iret rfl (by decide) (by decide) (by decide +kernel)
    · replace e := ite_f c2 e
      refine Go.run (pc' := 16) [.iload_n 2] (ls' := [some (.ref a0), some (.int x1), some (.int x2), some (.int x3), some (.int x4), none]) (st' := [.int x2]) (by decide +kernel) rfl rfl ?_
      refine Go.if_eq (off := 23) (tgt := 39) (by decide +kernel) (by decide) (fun c3 => ?_) (fun c3 => ?_)
      · replace e := ite_t c3 e
        exact x_M_neighbours_39 hf hI (fun kk0 qq0 e => ih kk0 qq0 e) k0 q0 e
      · replace e := ite_f c3 e
        refine Go.run (pc' := 22) [.aload_n 0, .iload 4] (ls' := [some (.ref a0), some (.int x1), some (.int x2), some (.int x3), some (.int x4), none]) (st' := [.int x4, .ref a0]) (by decide +kernel) rfl rfl ?_
        obtain ⟨v4, e5, e⟩ := bd_inv e
        refine Go.callS (M2 := m_M_spot) (as := [.int x4]) (rest := [.ref a0]) (v := some (.int v4)) (h1 := h) (x_M_spot hf hI  e5) ws_M_71 (by decide +kernel) rfl rfl ⟨⟨Nat.le_of_ble_eq_true rfl, Nat.le_of_ble_eq_true rfl⟩, ⟨Nat.le_of_ble_eq_true rfl, Nat.le_of_ble_eq_true rfl⟩⟩ (Nat.le_of_ble_eq_true rfl) ?_
        show Go l D ad aC (rmk m_M_neighbours) _ m_M_neighbours 25 [some (.ref a0), some (.int x1), some (.int x2), some (.int x3), some (.int x4), none] [.int v4, .ref a0] h 0 0
        refine Go.run (pc' := 27) [.iconst 0, .iadd] (ls' := [some (.ref a0), some (.int x1), some (.int x2), some (.int x3), some (.int x4), none]) (st' := [.int (v4 + (0 : Int32)), .ref a0]) (by decide +kernel) rfl rfl ?_
        obtain ⟨g6, e⟩ := gd_inv e
        refine Go.iald k0 q0 g6 (by decide +kernel) ?_
        refine Go.run (pc' := 30) [.aload_n 0, .iload_n 1] (ls' := [some (.ref a0), some (.int x1), some (.int x2), some (.int x3), some (.int x4), none]) (st' := [.int x1, .ref a0, .int (h a0 (v4 + (0 : Int32)).toNatClampNeg)]) (by decide +kernel) rfl rfl ?_
        obtain ⟨v7, e8, e⟩ := bd_inv e
        refine Go.callS (M2 := m_M_spot) (as := [.int x1]) (rest := [.ref a0, .int (h a0 (v4 + (0 : Int32)).toNatClampNeg)]) (v := some (.int v7)) (h1 := h) (x_M_spot hf hI  e8) ws_M_71 (by decide +kernel) rfl rfl ⟨⟨Nat.le_of_ble_eq_true rfl, Nat.le_of_ble_eq_true rfl⟩, ⟨Nat.le_of_ble_eq_true rfl, Nat.le_of_ble_eq_true rfl⟩⟩ (Nat.le_of_ble_eq_true rfl) ?_
        show Go l D ad aC (rmk m_M_neighbours) _ m_M_neighbours 33 [some (.ref a0), some (.int x1), some (.int x2), some (.int x3), some (.int x4), none] [.int v7, .ref a0, .int (h a0 (v4 + (0 : Int32)).toNatClampNeg)] h 0 0
        refine Go.run (pc' := 35) [.iconst 0, .iadd] (ls' := [some (.ref a0), some (.int x1), some (.int x2), some (.int x3), some (.int x4), none]) (st' := [.int (v7 + (0 : Int32)), .ref a0, .int (h a0 (v4 + (0 : Int32)).toNatClampNeg)]) (by decide +kernel) rfl rfl ?_
        obtain ⟨g9, e⟩ := gd_inv e
        refine Go.iald k0 q0 g9 (by decide +kernel) ?_
        refine Go.ic_ne (off := 7) (tgt := 43) (by decide +kernel) (by decide) (fun c10 => ?_) (fun c10 => ?_)
        · replace e := ite_f c10 e
          refine Go.run (pc' := 44) [.iconst 0] (ls' := [some (.ref a0), some (.int x1), some (.int x2), some (.int x3), some (.int x4), none]) (st' := [.int (0 : Int32)]) (by decide +kernel) rfl rfl ?_
          exact x_M_neighbours_44 hf hI (fun kk0 qq0 e => ih kk0 qq0 e) k0 q0 e
        · replace e := ite_t c10 e
          exact x_M_neighbours_39 hf hI (fun kk0 qq0 e => ih kk0 qq0 e) k0 q0 e
def f_M_neighbours (h : HP) (a0 : Nat) (x1 : Int32) (x2 : Int32) : Option (Int32) :=
  f_M_neighbours_5 h 4096 a0 x1 x2 (0 : Int32) (0 : Int32)
set_option maxHeartbeats 1000000 in
theorem x_M_neighbours {l : Launch} {D : va_G} {ad : Nat → Nat} {aC : Nat → ClassId} (hf : l.flags = flags0) (hI : Inj ad) {h : HP} {a0 : Nat} {x1 : Int32} {x2 : Int32} {r : Int32} (k0 : knd a0 = 10) (q0 : alen a0 = 196) (e : f_M_neighbours h a0 x1 x2 = some r) : CT l D ad aC m_M_neighbours [.ref a0, .int x1, .int x2] h (.inl (some (.int r))) h := by
  refine CT.ofGo (by decide +kernel) rfl (Nat.le_of_ble_eq_true rfl) ?_
  unfold f_M_neighbours at e
  show Go l D ad aC (rmk m_M_neighbours) _ m_M_neighbours 0 [some (.ref a0), some (.int x1), some (.int x2), none, none, none] [] h 0 0
  refine Go.run (pc' := 5) [.iconst 0, .istore_n 3, .iconst 0, .istore 4] (ls' := [some (.ref a0), some (.int x1), some (.int x2), some (.int (0 : Int32)), some (.int (0 : Int32)), none]) (st' := []) (by decide +kernel) rfl rfl ?_
  exact x_M_neighbours_5 hf hI 4096 k0 q0 e
def f_M_ends_28 (h : HP)  (a0 : Nat) (x2 : Int32) (s0 : Int32) : Option (Int32) :=
  if ib (x2 + (4 : Int32)) 196 = true then
  if ib (x2 + (1 : Int32)) 196 = true then
  if ib (x2 + (3 : Int32)) 196 = true then
  (f_M_size h a0 (h a0 (x2 + (3 : Int32)).toNatClampNeg)).bind fun v4 =>
  if ((h a0 (x2 + (4 : Int32)).toNatClampNeg) + (h a0 (x2 + (1 : Int32)).toNatClampNeg)) = v4 then
    some (s0 + (1 : Int32))
  else
    some (s0 + (0 : Int32))
  else none
  else none
  else none
set_option maxHeartbeats 1000000 in
theorem x_M_ends_28 {l : Launch} {D : va_G} {ad : Nat → Nat} {aC : Nat → ClassId} (hf : l.flags = flags0) (hI : Inj ad) {h : HP} {a0 : Nat} {x2 : Int32} {s0 : Int32} {r : Int32} (k0 : knd a0 = 10) (q0 : alen a0 = 196) (e : f_M_ends_28 h a0 x2 s0 = some r) : Go l D ad aC (rmk m_M_ends) (QM D ad aC m_M_ends (.inl (some (.int r))) h) m_M_ends 28 [some (.ref a0), none, some (.int x2)] [.int s0] h 0 0 := by
  unfold f_M_ends_28 at e
  refine Go.run (pc' := 32) [.aload_n 0, .iload_n 2, .iconst 4, .iadd] (ls' := [some (.ref a0), none, some (.int x2)]) (st' := [.int (x2 + (4 : Int32)), .ref a0, .int s0]) (by decide +kernel) rfl rfl ?_
  obtain ⟨g1, e⟩ := gd_inv e
  refine Go.iald k0 q0 g1 (by decide +kernel) ?_
  refine Go.run (pc' := 37) [.aload_n 0, .iload_n 2, .iconst 1, .iadd] (ls' := [some (.ref a0), none, some (.int x2)]) (st' := [.int (x2 + (1 : Int32)), .ref a0, .int (h a0 (x2 + (4 : Int32)).toNatClampNeg), .int s0]) (by decide +kernel) rfl rfl ?_
  obtain ⟨g2, e⟩ := gd_inv e
  refine Go.iald k0 q0 g2 (by decide +kernel) ?_
  refine Go.run (pc' := 44) [.iadd, .aload_n 0, .aload_n 0, .iload_n 2, .iconst 3, .iadd] (ls' := [some (.ref a0), none, some (.int x2)]) (st' := [.int (x2 + (3 : Int32)), .ref a0, .ref a0, .int ((h a0 (x2 + (4 : Int32)).toNatClampNeg) + (h a0 (x2 + (1 : Int32)).toNatClampNeg)), .int s0]) (by decide +kernel) rfl rfl ?_
  obtain ⟨g3, e⟩ := gd_inv e
  refine Go.iald k0 q0 g3 (by decide +kernel) ?_
  obtain ⟨v4, e5, e⟩ := bd_inv e
  refine Go.callS (M2 := m_M_size) (as := [.ref a0, .int (h a0 (x2 + (3 : Int32)).toNatClampNeg)]) (rest := [.int ((h a0 (x2 + (4 : Int32)).toNatClampNeg) + (h a0 (x2 + (1 : Int32)).toNatClampNeg)), .int s0]) (v := some (.int v4)) (h1 := h) (x_M_size hf hI k0 q0 e5) ws_M_75 (by decide +kernel) rfl rfl ⟨⟨Nat.le_of_ble_eq_true rfl, Nat.le_of_ble_eq_true rfl⟩, ⟨Nat.le_of_ble_eq_true rfl, Nat.le_of_ble_eq_true rfl⟩⟩ (Nat.le_of_ble_eq_true rfl) ?_
  show Go l D ad aC (rmk m_M_ends) _ m_M_ends 48 [some (.ref a0), none, some (.int x2)] [.int v4, .int ((h a0 (x2 + (4 : Int32)).toNatClampNeg) + (h a0 (x2 + (1 : Int32)).toNatClampNeg)), .int s0] h 0 0
  refine Go.ic_ne (off := 7) (tgt := 55) (by decide +kernel) (by decide) (fun c6 => ?_) (fun c6 => ?_)
  · replace e := ite_f c6 e
    refine Go.run (pc' := 57) [.iconst 0, .iadd] (ls' := [some (.ref a0), none, some (.int x2)]) (st' := [.int (s0 + (0 : Int32))]) (by decide +kernel) rfl rfl ?_
    obtain rfl := Option.some.inj e
    exact Go.iret rfl (by decide) (by decide) (by decide +kernel)
  · replace e := ite_t c6 e
    refine Go.run (pc' := 52) [.iconst 1] (ls' := [some (.ref a0), none, some (.int x2)]) (st' := [.int (1 : Int32), .int s0]) (by decide +kernel) rfl rfl ?_
    refine Go.goto (off := 4) (tgt := 56) (by decide +kernel) (by decide) ?_
    refine Go.run (pc' := 57) [.iadd] (ls' := [some (.ref a0), none, some (.int x2)]) (st' := [.int (s0 + (1 : Int32))]) (by decide +kernel) rfl rfl ?_
    obtain rfl := Option.some.inj e
    exact Go.iret rfl (by decide) (by decide) (by decide +kernel)
def f_M_ends (h : HP) (a0 : Nat) (x1 : Int32) : Option (Int32) :=
  (f_M_spot h x1).bind fun v1 =>
  (f_M_stands h a0 x1).bind fun v3 =>
  if v3 = 0 then
    some (0 : Int32)
  else
    if ib (v1 + (4 : Int32)) 196 = true then
    if (h a0 (v1 + (4 : Int32)).toNatClampNeg) = 0 then
      f_M_ends_28 h a0 v1 (1 : Int32)
    else
      f_M_ends_28 h a0 v1 (0 : Int32)
    else none
set_option maxHeartbeats 1000000 in
theorem x_M_ends {l : Launch} {D : va_G} {ad : Nat → Nat} {aC : Nat → ClassId} (hf : l.flags = flags0) (hI : Inj ad) {h : HP} {a0 : Nat} {x1 : Int32} {r : Int32} (k0 : knd a0 = 10) (q0 : alen a0 = 196) (e : f_M_ends h a0 x1 = some r) : CT l D ad aC m_M_ends [.ref a0, .int x1] h (.inl (some (.int r))) h := by
  refine CT.ofGo (by decide +kernel) rfl (Nat.le_of_ble_eq_true rfl) ?_
  unfold f_M_ends at e
  show Go l D ad aC (rmk m_M_ends) _ m_M_ends 0 [some (.ref a0), some (.int x1), none] [] h 0 0
  refine Go.run (pc' := 1) [.iload_n 1] (ls' := [some (.ref a0), some (.int x1), none]) (st' := [.int x1]) (by decide +kernel) rfl rfl ?_
  obtain ⟨v1, e2, e⟩ := bd_inv e
  refine Go.callS (M2 := m_M_spot) (as := [.int x1]) (rest := []) (v := some (.int v1)) (h1 := h) (x_M_spot hf hI  e2) ws_M_71 (by decide +kernel) rfl rfl ⟨⟨Nat.le_of_ble_eq_true rfl, Nat.le_of_ble_eq_true rfl⟩, ⟨Nat.le_of_ble_eq_true rfl, Nat.le_of_ble_eq_true rfl⟩⟩ (Nat.le_of_ble_eq_true rfl) ?_
  show Go l D ad aC (rmk m_M_ends) _ m_M_ends 4 [some (.ref a0), some (.int x1), none] [.int v1] h 0 0
  refine Go.run (pc' := 7) [.istore_n 2, .aload_n 0, .iload_n 1] (ls' := [some (.ref a0), some (.int x1), some (.int v1)]) (st' := [.int x1, .ref a0]) (by decide +kernel) rfl rfl ?_
  obtain ⟨v3, e4, e⟩ := bd_inv e
  refine Go.callS (M2 := m_M_stands) (as := [.ref a0, .int x1]) (rest := []) (v := some (.int v3)) (h1 := h) (x_M_stands hf hI k0 q0 e4) ws_M_89 (by decide +kernel) rfl rfl ⟨⟨Nat.le_of_ble_eq_true rfl, Nat.le_of_ble_eq_true rfl⟩, ⟨Nat.le_of_ble_eq_true rfl, Nat.le_of_ble_eq_true rfl⟩⟩ (Nat.le_of_ble_eq_true rfl) ?_
  show Go l D ad aC (rmk m_M_ends) _ m_M_ends 10 [some (.ref a0), some (.int x1), some (.int v1)] [.int v3] h 0 0
  refine Go.if_ne (off := 5) (tgt := 15) (by decide +kernel) (by decide) (fun c5 => ?_) (fun c5 => ?_)
  · replace e := ite_f c5 e
    refine Go.run (pc' := 19) [.aload_n 0, .iload_n 2, .iconst 4, .iadd] (ls' := [some (.ref a0), some (.int x1), some (.int v1)]) (st' := [.int (v1 + (4 : Int32)), .ref a0]) (by decide +kernel) rfl rfl ?_
    obtain ⟨g6, e⟩ := gd_inv e
    refine Go.iald k0 q0 g6 (by decide +kernel) ?_
    refine Go.if_ne (off := 7) (tgt := 27) (by decide +kernel) (by decide) (fun c7 => ?_) (fun c7 => ?_)
    · replace e := ite_f c7 e
      refine Go.run (pc' := 28) [.iconst 0] (ls' := [some (.ref a0), some (.int x1), some (.int v1)]) (st' := [.int (0 : Int32)]) (by decide +kernel) rfl rfl ?_
      refine Go.wk' (wks (wkn (wks wk0))) ?_
      exact x_M_ends_28 hf hI k0 q0 e
    · replace e := ite_t c7 e
      refine Go.run (pc' := 24) [.iconst 1] (ls' := [some (.ref a0), some (.int x1), some (.int v1)]) (st' := [.int (1 : Int32)]) (by decide +kernel) rfl rfl ?_
      refine Go.goto (off := 4) (tgt := 28) (by decide +kernel) (by decide) ?_
      refine Go.wk' (wks (wkn (wks wk0))) ?_
      exact x_M_ends_28 hf hI k0 q0 e
  · replace e := ite_t c5 e
    refine Go.run (pc' := 14) [.iconst 0] (ls' := [some (.ref a0), some (.int x1), some (.int v1)]) (st' := [.int (0 : Int32)]) (by decide +kernel) rfl rfl ?_
    obtain rfl := Option.some.inj e
    exact Go.iret rfl (by decide) (by decide) (by decide +kernel)
def f_M_rent_67 (h : HP)  (a0 : Nat) (a1 : Nat) (x2 : Int32) (s0 : Int32) (s1 : Int32) : Option (Int32) :=
  if ib (194 : Int32) 196 = true then
  (f_M_lacks h a0 a1 x2).bind fun v2 =>
  if 0 ≤ ((s0 - s1) - ((h a1 (194 : Int32).toNatClampNeg) * v2)) then
    some ((s0 - s1) - ((h a1 (194 : Int32).toNatClampNeg) * v2))
  else
    some (0 : Int32)
  else none
set_option maxHeartbeats 1000000 in
theorem x_M_rent_67 {l : Launch} {D : va_G} {ad : Nat → Nat} {aC : Nat → ClassId} (hf : l.flags = flags0) (hI : Inj ad) {h : HP} {a0 : Nat} {a1 : Nat} {x2 : Int32} {s0 : Int32} {s1 : Int32} {r : Int32} (k0 : knd a0 = 8) (k1 : knd a1 = 10) (q1 : alen a1 = 196) (e : f_M_rent_67 h a0 a1 x2 s0 s1 = some r) : Go l D ad aC (rmk m_M_rent) (QM D ad aC m_M_rent (.inl (some (.int r))) h) m_M_rent 67 [some (.ref a0), some (.ref a1), some (.int x2), none] [.int s1, .int s0] h 0 0 := by
  unfold f_M_rent_67 at e
  refine Go.run (pc' := 74) [.isub, .istore_n 3, .iload_n 3, .aload_n 1, .sipush (194)] (ls' := [some (.ref a0), some (.ref a1), some (.int x2), some (.int (s0 - s1))]) (st' := [.int (194 : Int32), .ref a1, .int (s0 - s1)]) (by decide +kernel) rfl rfl ?_
  obtain ⟨g1, e⟩ := gd_inv e
  refine Go.iald k1 q1 g1 (by decide +kernel) ?_
  refine Go.run (pc' := 78) [.aload_n 0, .aload_n 1, .iload_n 2] (ls' := [some (.ref a0), some (.ref a1), some (.int x2), some (.int (s0 - s1))]) (st' := [.int x2, .ref a1, .ref a0, .int (h a1 (194 : Int32).toNatClampNeg), .int (s0 - s1)]) (by decide +kernel) rfl rfl ?_
  obtain ⟨v2, e3, e⟩ := bd_inv e
  refine Go.callV (M2 := m_M_lacks) (a := a0) (as := [.ref a1, .int x2]) (rest := [.int (h a1 (194 : Int32).toNatClampNeg), .int (s0 - s1)]) (v := some (.int v2)) (h1 := h) (x_M_lacks hf hI k0 k1 q1 e3) wv_M_106 k0 kc_8 (by decide +kernel) rfl rfl ⟨⟨Nat.le_of_ble_eq_true rfl, Nat.le_of_ble_eq_true rfl⟩, ⟨Nat.le_of_ble_eq_true rfl, Nat.le_of_ble_eq_true rfl⟩⟩ (Nat.le_of_ble_eq_true rfl) ?_
  show Go l D ad aC (rmk m_M_rent) _ m_M_rent 81 [some (.ref a0), some (.ref a1), some (.int x2), some (.int (s0 - s1))] [.int v2, .int (h a1 (194 : Int32).toNatClampNeg), .int (s0 - s1)] h 0 0
  refine Go.run (pc' := 85) [.imul, .isub, .istore_n 3, .iload_n 3] (ls' := [some (.ref a0), some (.ref a1), some (.int x2), some (.int ((s0 - s1) - ((h a1 (194 : Int32).toNatClampNeg) * v2)))]) (st' := [.int ((s0 - s1) - ((h a1 (194 : Int32).toNatClampNeg) * v2))]) (by decide +kernel) rfl rfl ?_
  refine Go.if_ge (off := 7) (tgt := 92) (by decide +kernel) (by decide) (fun c4 => ?_) (fun c4 => ?_)
  · replace e := ite_t c4 e
    refine Go.run (pc' := 93) [.iload_n 3] (ls' := [some (.ref a0), some (.ref a1), some (.int x2), some (.int ((s0 - s1) - ((h a1 (194 : Int32).toNatClampNeg) * v2)))]) (st' := [.int ((s0 - s1) - ((h a1 (194 : Int32).toNatClampNeg) * v2))]) (by decide +kernel) rfl rfl ?_
    obtain rfl := Option.some.inj e
    exact Go.iret rfl (by decide) (by decide) (by decide +kernel)
  · replace e := ite_f c4 e
    refine Go.run (pc' := 89) [.iconst 0] (ls' := [some (.ref a0), some (.ref a1), some (.int x2), some (.int ((s0 - s1) - ((h a1 (194 : Int32).toNatClampNeg) * v2)))]) (st' := [.int (0 : Int32)]) (by decide +kernel) rfl rfl ?_
    refine Go.goto (off := 4) (tgt := 93) (by decide +kernel) (by decide) ?_
    obtain rfl := Option.some.inj e
    exact Go.iret rfl (by decide) (by decide) (by decide +kernel)
def f_M_rent (h : HP) (a0 : Nat) (a1 : Nat) (x2 : Int32) : Option (Int32) :=
  (f_M_stands h a1 x2).bind fun v1 =>
  if v1 = 0 then
    some (0 : Int32)
  else
    if ib (190 : Int32) 196 = true then
    (f_M_spot h x2).bind fun v5 =>
    if ib (v5 + (1 : Int32)) 196 = true then
    if ib (192 : Int32) 196 = true then
    (f_M_ends h a1 x2).bind fun v9 =>
    if ib (193 : Int32) 196 = true then
    if ib x2 10 = true then
    (f_M_neighbours h a1 x2 (1 : Int32)).bind fun v13 =>
    if v13 ≤ 0 then
      f_M_rent_67 h a0 a1 x2 ((((h a1 (190 : Int32).toNatClampNeg) * (h a1 (v5 + (1 : Int32)).toNatClampNeg)) + ((h a1 (192 : Int32).toNatClampNeg) * v9)) + ((h a1 (193 : Int32).toNatClampNeg) * (h (fld a0 9) x2.toNatClampNeg))) (0 : Int32)
    else
      f_M_rent_67 h a0 a1 x2 ((((h a1 (190 : Int32).toNatClampNeg) * (h a1 (v5 + (1 : Int32)).toNatClampNeg)) + ((h a1 (192 : Int32).toNatClampNeg) * v9)) + ((h a1 (193 : Int32).toNatClampNeg) * (h (fld a0 9) x2.toNatClampNeg))) (((((h a1 (190 : Int32).toNatClampNeg) * (h a1 (v5 + (1 : Int32)).toNatClampNeg)) + ((h a1 (192 : Int32).toNatClampNeg) * v9)) + ((h a1 (193 : Int32).toNatClampNeg) * (h (fld a0 9) x2.toNatClampNeg))) / (4 : Int32))
    else none
    else none
    else none
    else none
    else none
set_option maxHeartbeats 1000000 in
theorem x_M_rent {l : Launch} {D : va_G} {ad : Nat → Nat} {aC : Nat → ClassId} (hf : l.flags = flags0) (hI : Inj ad) {h : HP} {a0 : Nat} {a1 : Nat} {x2 : Int32} {r : Int32} (k0 : knd a0 = 8) (k1 : knd a1 = 10) (q1 : alen a1 = 196) (e : f_M_rent h a0 a1 x2 = some r) : CT l D ad aC m_M_rent [.ref a0, .ref a1, .int x2] h (.inl (some (.int r))) h := by
  refine CT.ofGo (by decide +kernel) rfl (Nat.le_of_ble_eq_true rfl) ?_
  unfold f_M_rent at e
  show Go l D ad aC (rmk m_M_rent) _ m_M_rent 0 [some (.ref a0), some (.ref a1), some (.int x2), none] [] h 0 0
  refine Go.run (pc' := 2) [.aload_n 1, .iload_n 2] (ls' := [some (.ref a0), some (.ref a1), some (.int x2), none]) (st' := [.int x2, .ref a1]) (by decide +kernel) rfl rfl ?_
  obtain ⟨v1, e2, e⟩ := bd_inv e
  refine Go.callS (M2 := m_M_stands) (as := [.ref a1, .int x2]) (rest := []) (v := some (.int v1)) (h1 := h) (x_M_stands hf hI k1 q1 e2) ws_M_89 (by decide +kernel) rfl rfl ⟨⟨Nat.le_of_ble_eq_true rfl, Nat.le_of_ble_eq_true rfl⟩, ⟨Nat.le_of_ble_eq_true rfl, Nat.le_of_ble_eq_true rfl⟩⟩ (Nat.le_of_ble_eq_true rfl) ?_
  show Go l D ad aC (rmk m_M_rent) _ m_M_rent 5 [some (.ref a0), some (.ref a1), some (.int x2), none] [.int v1] h 0 0
  refine Go.if_ne (off := 5) (tgt := 10) (by decide +kernel) (by decide) (fun c3 => ?_) (fun c3 => ?_)
  · replace e := ite_f c3 e
    refine Go.run (pc' := 14) [.aload_n 1, .sipush (190)] (ls' := [some (.ref a0), some (.ref a1), some (.int x2), none]) (st' := [.int (190 : Int32), .ref a1]) (by decide +kernel) rfl rfl ?_
    obtain ⟨g4, e⟩ := gd_inv e
    refine Go.iald k1 q1 g4 (by decide +kernel) ?_
    refine Go.run (pc' := 17) [.aload_n 1, .iload_n 2] (ls' := [some (.ref a0), some (.ref a1), some (.int x2), none]) (st' := [.int x2, .ref a1, .int (h a1 (190 : Int32).toNatClampNeg)]) (by decide +kernel) rfl rfl ?_
    obtain ⟨v5, e6, e⟩ := bd_inv e
    refine Go.callS (M2 := m_M_spot) (as := [.int x2]) (rest := [.ref a1, .int (h a1 (190 : Int32).toNatClampNeg)]) (v := some (.int v5)) (h1 := h) (x_M_spot hf hI  e6) ws_M_71 (by decide +kernel) rfl rfl ⟨⟨Nat.le_of_ble_eq_true rfl, Nat.le_of_ble_eq_true rfl⟩, ⟨Nat.le_of_ble_eq_true rfl, Nat.le_of_ble_eq_true rfl⟩⟩ (Nat.le_of_ble_eq_true rfl) ?_
    show Go l D ad aC (rmk m_M_rent) _ m_M_rent 20 [some (.ref a0), some (.ref a1), some (.int x2), none] [.int v5, .ref a1, .int (h a1 (190 : Int32).toNatClampNeg)] h 0 0
    refine Go.run (pc' := 22) [.iconst 1, .iadd] (ls' := [some (.ref a0), some (.ref a1), some (.int x2), none]) (st' := [.int (v5 + (1 : Int32)), .ref a1, .int (h a1 (190 : Int32).toNatClampNeg)]) (by decide +kernel) rfl rfl ?_
    obtain ⟨g7, e⟩ := gd_inv e
    refine Go.iald k1 q1 g7 (by decide +kernel) ?_
    refine Go.run (pc' := 28) [.imul, .aload_n 1, .sipush (192)] (ls' := [some (.ref a0), some (.ref a1), some (.int x2), none]) (st' := [.int (192 : Int32), .ref a1, .int ((h a1 (190 : Int32).toNatClampNeg) * (h a1 (v5 + (1 : Int32)).toNatClampNeg))]) (by decide +kernel) rfl rfl ?_
    obtain ⟨g8, e⟩ := gd_inv e
    refine Go.iald k1 q1 g8 (by decide +kernel) ?_
    refine Go.run (pc' := 31) [.aload_n 1, .iload_n 2] (ls' := [some (.ref a0), some (.ref a1), some (.int x2), none]) (st' := [.int x2, .ref a1, .int (h a1 (192 : Int32).toNatClampNeg), .int ((h a1 (190 : Int32).toNatClampNeg) * (h a1 (v5 + (1 : Int32)).toNatClampNeg))]) (by decide +kernel) rfl rfl ?_
    obtain ⟨v9, e10, e⟩ := bd_inv e
    refine Go.callS (M2 := m_M_ends) (as := [.ref a1, .int x2]) (rest := [.int (h a1 (192 : Int32).toNatClampNeg), .int ((h a1 (190 : Int32).toNatClampNeg) * (h a1 (v5 + (1 : Int32)).toNatClampNeg))]) (v := some (.int v9)) (h1 := h) (x_M_ends hf hI k1 q1 e10) ws_M_99 (by decide +kernel) rfl rfl ⟨⟨Nat.le_of_ble_eq_true rfl, Nat.le_of_ble_eq_true rfl⟩, ⟨Nat.le_of_ble_eq_true rfl, Nat.le_of_ble_eq_true rfl⟩⟩ (Nat.le_of_ble_eq_true rfl) ?_
    show Go l D ad aC (rmk m_M_rent) _ m_M_rent 34 [some (.ref a0), some (.ref a1), some (.int x2), none] [.int v9, .int (h a1 (192 : Int32).toNatClampNeg), .int ((h a1 (190 : Int32).toNatClampNeg) * (h a1 (v5 + (1 : Int32)).toNatClampNeg))] h 0 0
    refine Go.run (pc' := 40) [.imul, .iadd, .aload_n 1, .sipush (193)] (ls' := [some (.ref a0), some (.ref a1), some (.int x2), none]) (st' := [.int (193 : Int32), .ref a1, .int (((h a1 (190 : Int32).toNatClampNeg) * (h a1 (v5 + (1 : Int32)).toNatClampNeg)) + ((h a1 (192 : Int32).toNatClampNeg) * v9))]) (by decide +kernel) rfl rfl ?_
    obtain ⟨g11, e⟩ := gd_inv e
    refine Go.iald k1 q1 g11 (by decide +kernel) ?_
    refine Go.run (pc' := 42) [.aload_n 0] (ls' := [some (.ref a0), some (.ref a1), some (.int x2), none]) (st' := [.ref a0, .int (h a1 (193 : Int32).toNatClampNeg), .int (((h a1 (190 : Int32).toNatClampNeg) * (h a1 (v5 + (1 : Int32)).toNatClampNeg)) + ((h a1 (192 : Int32).toNatClampNeg) * v9))]) (by decide +kernel) rfl rfl ?_
    refine Go.getR fo_M_32 k0 (by decide +kernel) ?_
    refine Go.run (pc' := 46) [.iload_n 2] (ls' := [some (.ref a0), some (.ref a1), some (.int x2), none]) (st' := [.int x2, .ref (fld a0 9), .int (h a1 (193 : Int32).toNatClampNeg), .int (((h a1 (190 : Int32).toNatClampNeg) * (h a1 (v5 + (1 : Int32)).toNatClampNeg)) + ((h a1 (192 : Int32).toNatClampNeg) * v9))]) (by decide +kernel) rfl rfl ?_
    obtain ⟨g12, e⟩ := gd_inv e
    refine Go.iald (kf_8_j 9 k0 (by decide) (by decide)) (al_8_j 9 k0 (by decide) (by decide) rfl) g12 (by decide +kernel) ?_
    refine Go.run (pc' := 54) [.imul, .iadd, .istore_n 3, .iload_n 3, .aload_n 1, .iload_n 2, .iconst 1] (ls' := [some (.ref a0), some (.ref a1), some (.int x2), some (.int ((((h a1 (190 : Int32).toNatClampNeg) * (h a1 (v5 + (1 : Int32)).toNatClampNeg)) + ((h a1 (192 : Int32).toNatClampNeg) * v9)) + ((h a1 (193 : Int32).toNatClampNeg) * (h (fld a0 9) x2.toNatClampNeg))))]) (st' := [.int (1 : Int32), .int x2, .ref a1, .int ((((h a1 (190 : Int32).toNatClampNeg) * (h a1 (v5 + (1 : Int32)).toNatClampNeg)) + ((h a1 (192 : Int32).toNatClampNeg) * v9)) + ((h a1 (193 : Int32).toNatClampNeg) * (h (fld a0 9) x2.toNatClampNeg)))]) (by decide +kernel) rfl rfl ?_
    obtain ⟨v13, e14, e⟩ := bd_inv e
    refine Go.callS (M2 := m_M_neighbours) (as := [.ref a1, .int x2, .int (1 : Int32)]) (rest := [.int ((((h a1 (190 : Int32).toNatClampNeg) * (h a1 (v5 + (1 : Int32)).toNatClampNeg)) + ((h a1 (192 : Int32).toNatClampNeg) * v9)) + ((h a1 (193 : Int32).toNatClampNeg) * (h (fld a0 9) x2.toNatClampNeg)))]) (v := some (.int v13)) (h1 := h) (x_M_neighbours hf hI k1 q1 e14) ws_M_102 (by decide +kernel) rfl rfl ⟨⟨Nat.le_of_ble_eq_true rfl, Nat.le_of_ble_eq_true rfl⟩, ⟨Nat.le_of_ble_eq_true rfl, Nat.le_of_ble_eq_true rfl⟩⟩ (Nat.le_of_ble_eq_true rfl) ?_
    show Go l D ad aC (rmk m_M_rent) _ m_M_rent 57 [some (.ref a0), some (.ref a1), some (.int x2), some (.int ((((h a1 (190 : Int32).toNatClampNeg) * (h a1 (v5 + (1 : Int32)).toNatClampNeg)) + ((h a1 (192 : Int32).toNatClampNeg) * v9)) + ((h a1 (193 : Int32).toNatClampNeg) * (h (fld a0 9) x2.toNatClampNeg))))] [.int v13, .int ((((h a1 (190 : Int32).toNatClampNeg) * (h a1 (v5 + (1 : Int32)).toNatClampNeg)) + ((h a1 (192 : Int32).toNatClampNeg) * v9)) + ((h a1 (193 : Int32).toNatClampNeg) * (h (fld a0 9) x2.toNatClampNeg)))] h 0 0
    refine Go.if_le (off := 9) (tgt := 66) (by decide +kernel) (by decide) (fun c15 => ?_) (fun c15 => ?_)
    · replace e := ite_t c15 e
      refine Go.run (pc' := 67) [.iconst 0] (ls' := [some (.ref a0), some (.ref a1), some (.int x2), some (.int ((((h a1 (190 : Int32).toNatClampNeg) * (h a1 (v5 + (1 : Int32)).toNatClampNeg)) + ((h a1 (192 : Int32).toNatClampNeg) * v9)) + ((h a1 (193 : Int32).toNatClampNeg) * (h (fld a0 9) x2.toNatClampNeg))))]) (st' := [.int (0 : Int32), .int ((((h a1 (190 : Int32).toNatClampNeg) * (h a1 (v5 + (1 : Int32)).toNatClampNeg)) + ((h a1 (192 : Int32).toNatClampNeg) * v9)) + ((h a1 (193 : Int32).toNatClampNeg) * (h (fld a0 9) x2.toNatClampNeg)))]) (by decide +kernel) rfl rfl ?_
      refine Go.wk' (wks (wks (wks (wkn wk0)))) ?_
      exact x_M_rent_67 hf hI k0 k1 q1 e
    · replace e := ite_f c15 e
      refine Go.run (pc' := 63) [.iload_n 3, .iconst 4, .idiv] (ls' := [some (.ref a0), some (.ref a1), some (.int x2), some (.int ((((h a1 (190 : Int32).toNatClampNeg) * (h a1 (v5 + (1 : Int32)).toNatClampNeg)) + ((h a1 (192 : Int32).toNatClampNeg) * v9)) + ((h a1 (193 : Int32).toNatClampNeg) * (h (fld a0 9) x2.toNatClampNeg))))]) (st' := [.int (((((h a1 (190 : Int32).toNatClampNeg) * (h a1 (v5 + (1 : Int32)).toNatClampNeg)) + ((h a1 (192 : Int32).toNatClampNeg) * v9)) + ((h a1 (193 : Int32).toNatClampNeg) * (h (fld a0 9) x2.toNatClampNeg))) / (4 : Int32)), .int ((((h a1 (190 : Int32).toNatClampNeg) * (h a1 (v5 + (1 : Int32)).toNatClampNeg)) + ((h a1 (192 : Int32).toNatClampNeg) * v9)) + ((h a1 (193 : Int32).toNatClampNeg) * (h (fld a0 9) x2.toNatClampNeg)))]) (by decide +kernel) rfl rfl ?_
      refine Go.goto (off := 4) (tgt := 67) (by decide +kernel) (by decide) ?_
      refine Go.wk' (wks (wks (wks (wkn wk0)))) ?_
      exact x_M_rent_67 hf hI k0 k1 q1 e
  · replace e := ite_t c3 e
    refine Go.run (pc' := 9) [.iconst 0] (ls' := [some (.ref a0), some (.ref a1), some (.int x2), none]) (st' := [.int (0 : Int32)]) (by decide +kernel) rfl rfl ?_
    obtain rfl := Option.some.inj e
    exact Go.iret rfl (by decide) (by decide) (by decide +kernel)
def f_M_rents_9  : Nat → Nat → Nat → Int32 → Int32 → HP → Option (Int32 × HP)
  | 0, _, _, _, _, _ => none
  | n + 1, a0, a1, x2, x3, h =>
    if ib (185 : Int32) 196 = true then
    if (h a1 (185 : Int32).toNatClampNeg) ≤ x3 then
      some (x2, h)
    else
      (f_M_rent h a0 a1 x3).bind fun v3 =>
      f_M_rents_9 n a0 a1 (x2 + v3) (x3 + (1 : Int32)) h
    else none
set_option maxHeartbeats 1000000 in
theorem x_M_rents_9 {l : Launch} {D : va_G} {ad : Nat → Nat} {aC : Nat → ClassId} (hf : l.flags = flags0) (hI : Inj ad) : ∀ (n : Nat) {a0 : Nat} {a1 : Nat} {x2 : Int32} {x3 : Int32} {h : HP} {r : Int32 × HP}, knd a0 = 8 → knd a1 = 10 → alen a1 = 196 → f_M_rents_9 n a0 a1 x2 x3 h = some r → Go l D ad aC (rmk m_M_rents) (QM D ad aC m_M_rents (.inl (some (.int r.1))) r.2) m_M_rents 9 [some (.ref a0), some (.ref a1), some (.int x2), some (.int x3)] [] h 0 0 := by
  intro n
  induction n with
  | zero => intro a0 a1 x2 x3 h r k0 k1 q1 e; exact no_none e
  | succ n ih =>
    intro a0 a1 x2 x3 h r k0 k1 q1 e
    rw [f_M_rents_9] at e
    refine Go.run (pc' := 14) [.iload_n 3, .aload_n 1, .sipush (185)] (ls' := [some (.ref a0), some (.ref a1), some (.int x2), some (.int x3)]) (st' := [.int (185 : Int32), .ref a1, .int x3]) (by decide +kernel) rfl rfl ?_
    obtain ⟨g1, e⟩ := gd_inv e
    refine Go.iald k1 q1 g1 (by decide +kernel) ?_
    refine Go.ic_ge (off := 18) (tgt := 33) (by decide +kernel) (by decide) (fun c2 => ?_) (fun c2 => ?_)
    · replace e := ite_t c2 e
      refine Go.run (pc' := 34) [.iload_n 2] (ls' := [some (.ref a0), some (.ref a1), some (.int x2), some (.int x3)]) (st' := [.int x2]) (by decide +kernel) rfl rfl ?_
      obtain rfl := Option.some.inj e
      exact Go.iret rfl (by decide) (by decide) (by decide +kernel)
    · replace e := ite_f c2 e
      refine Go.run (pc' := 22) [.iload_n 2, .aload_n 0, .aload_n 1, .iload_n 3] (ls' := [some (.ref a0), some (.ref a1), some (.int x2), some (.int x3)]) (st' := [.int x3, .ref a1, .ref a0, .int x2]) (by decide +kernel) rfl rfl ?_
      obtain ⟨v3, e4, e⟩ := bd_inv e
      refine Go.callV (M2 := m_M_rent) (a := a0) (as := [.ref a1, .int x3]) (rest := [.int x2]) (v := some (.int v3)) (h1 := h) (x_M_rent hf hI k0 k1 q1 e4) wv_M_112 k0 kc_8 (by decide +kernel) rfl rfl ⟨⟨Nat.le_of_ble_eq_true rfl, Nat.le_of_ble_eq_true rfl⟩, ⟨Nat.le_of_ble_eq_true rfl, Nat.le_of_ble_eq_true rfl⟩⟩ (Nat.le_of_ble_eq_true rfl) ?_
      show Go l D ad aC (rmk m_M_rents) _ m_M_rents 25 [some (.ref a0), some (.ref a1), some (.int x2), some (.int x3)] [.int v3, .int x2] h 0 0
      refine Go.run (pc' := 30) [.iadd, .istore_n 2, .iinc 3 (1)] (ls' := [some (.ref a0), some (.ref a1), some (.int (x2 + v3)), some (.int (x3 + (1 : Int32)))]) (st' := []) (by decide +kernel) rfl rfl ?_
      refine Go.goto (off := -21) (tgt := 9) (by decide +kernel) (by decide) ?_
      exact ih k0 k1 q1 e
def f_M_rents (h : HP) (a0 : Nat) (a1 : Nat) : Option (Int32 × HP) :=
  (f_M_share h a0 a1).bind fun v1 =>
  f_M_rents_9 4096 a0 a1 (0 : Int32) (0 : Int32) v1
set_option maxHeartbeats 1000000 in
theorem x_M_rents {l : Launch} {D : va_G} {ad : Nat → Nat} {aC : Nat → ClassId} (hf : l.flags = flags0) (hI : Inj ad) {h : HP} {a0 : Nat} {a1 : Nat} {r : Int32 × HP} (k0 : knd a0 = 8) (k1 : knd a1 = 10) (q1 : alen a1 = 196) (e : f_M_rents h a0 a1 = some r) : CT l D ad aC m_M_rents [.ref a0, .ref a1] h (.inl (some (.int r.1))) r.2 := by
  refine CT.ofGo (by decide +kernel) rfl (Nat.le_of_ble_eq_true rfl) ?_
  unfold f_M_rents at e
  show Go l D ad aC (rmk m_M_rents) _ m_M_rents 0 [some (.ref a0), some (.ref a1), none, none] [] h 0 0
  refine Go.run (pc' := 4) [.iconst 0, .istore_n 2, .aload_n 0, .aload_n 1] (ls' := [some (.ref a0), some (.ref a1), some (.int (0 : Int32)), none]) (st' := [.ref a1, .ref a0]) (by decide +kernel) rfl rfl ?_
  obtain ⟨v1, e2, e⟩ := bd_inv e
  refine Go.callV (M2 := m_M_share) (a := a0) (as := [.ref a1]) (rest := []) (v := none) (h1 := v1) (x_M_share hf hI k0 k1 q1 e2) wv_M_109 k0 kc_8 (by decide +kernel) rfl rfl ⟨⟨Nat.le_of_ble_eq_true rfl, Nat.le_of_ble_eq_true rfl⟩, ⟨Nat.le_of_ble_eq_true rfl, Nat.le_of_ble_eq_true rfl⟩⟩ (Nat.le_of_ble_eq_true rfl) ?_
  show Go l D ad aC (rmk m_M_rents) _ m_M_rents 7 [some (.ref a0), some (.ref a1), some (.int (0 : Int32)), none] [] v1 0 0
  refine Go.run (pc' := 9) [.iconst 0, .istore_n 3] (ls' := [some (.ref a0), some (.ref a1), some (.int (0 : Int32)), some (.int (0 : Int32))]) (st' := []) (by decide +kernel) rfl rfl ?_
  exact x_M_rents_9 hf hI 4096 k0 k1 q1 e
def f_M_addWall (h : HP) (a0 : Nat) (x1 : Int32) : Option (Int32 × HP) :=
  if ib (184 : Int32) 196 = true then
  if ib ((31 : Int32) * (h a0 (184 : Int32).toNatClampNeg)) 196 = true then
  (some (hset h a0 ((31 : Int32) * (h a0 (184 : Int32).toNatClampNeg)).toNatClampNeg x1)).bind fun h3 =>
  if ib (184 : Int32) 196 = true then
  if ib (184 : Int32) 196 = true then
  (some (hset h3 a0 (184 : Int32).toNatClampNeg ((h3 a0 (184 : Int32).toNatClampNeg) + (1 : Int32)))).bind fun h7 =>
  if ib (184 : Int32) 196 = true then
  some ((h7 a0 (184 : Int32).toNatClampNeg) - (1 : Int32), h7)
  else none
  else none
  else none
  else none
  else none
set_option maxHeartbeats 1000000 in
theorem x_M_addWall {l : Launch} {D : va_G} {ad : Nat → Nat} {aC : Nat → ClassId} (hf : l.flags = flags0) (hI : Inj ad) {h : HP} {a0 : Nat} {x1 : Int32} {r : Int32 × HP} (k0 : knd a0 = 10) (q0 : alen a0 = 196) (e : f_M_addWall h a0 x1 = some r) : CT l D ad aC m_M_addWall [.ref a0, .int x1] h (.inl (some (.int r.1))) r.2 := by
  refine CT.ofGo (by decide +kernel) rfl (Nat.le_of_ble_eq_true rfl) ?_
  unfold f_M_addWall at e
  show Go l D ad aC (rmk m_M_addWall) _ m_M_addWall 0 [some (.ref a0), some (.int x1)] [] h 0 0
  refine Go.run (pc' := 7) [.aload_n 0, .bipush (31), .aload_n 0, .sipush (184)] (ls' := [some (.ref a0), some (.int x1)]) (st' := [.int (184 : Int32), .ref a0, .int (31 : Int32), .ref a0]) (by decide +kernel) rfl rfl ?_
  obtain ⟨g1, e⟩ := gd_inv e
  refine Go.iald k0 q0 g1 (by decide +kernel) ?_
  refine Go.run (pc' := 10) [.imul, .iload_n 1] (ls' := [some (.ref a0), some (.int x1)]) (st' := [.int x1, .int ((31 : Int32) * (h a0 (184 : Int32).toNatClampNeg)), .ref a0]) (by decide +kernel) rfl rfl ?_
  obtain ⟨g2, e⟩ := gd_inv e
  refine Go.iast hI k0 q0 g2 (by decide +kernel) ?_
  obtain ⟨h3, q4, e⟩ := bd_inv e
  refine Go.eqH (Option.some.inj q4) ?_
  refine Go.run (pc' := 16) [.aload_n 0, .sipush (184), .dup2] (ls' := [some (.ref a0), some (.int x1)]) (st' := [.int (184 : Int32), .ref a0, .int (184 : Int32), .ref a0]) (by decide +kernel) rfl rfl ?_
  obtain ⟨g5, e⟩ := gd_inv e
  refine Go.iald k0 q0 g5 (by decide +kernel) ?_
  refine Go.run (pc' := 19) [.iconst 1, .iadd] (ls' := [some (.ref a0), some (.int x1)]) (st' := [.int ((h3 a0 (184 : Int32).toNatClampNeg) + (1 : Int32)), .int (184 : Int32), .ref a0]) (by decide +kernel) rfl rfl ?_
  obtain ⟨g6, e⟩ := gd_inv e
  refine Go.iast hI k0 q0 g6 (by decide +kernel) ?_
  obtain ⟨h7, q8, e⟩ := bd_inv e
  refine Go.eqH (Option.some.inj q8) ?_
  refine Go.run (pc' := 24) [.aload_n 0, .sipush (184)] (ls' := [some (.ref a0), some (.int x1)]) (st' := [.int (184 : Int32), .ref a0]) (by decide +kernel) rfl rfl ?_
  obtain ⟨g9, e⟩ := gd_inv e
  refine Go.iald k0 q0 g9 (by decide +kernel) ?_
  refine Go.run (pc' := 27) [.iconst 1, .isub] (ls' := [some (.ref a0), some (.int x1)]) (st' := [.int ((h7 a0 (184 : Int32).toNatClampNeg) - (1 : Int32))]) (by decide +kernel) rfl rfl ?_
  obtain rfl := Option.some.inj e
  exact Go.iret rfl (by decide) (by decide) (by decide +kernel)
def f_M_put (h : HP) (a0 : Nat) (x1 : Int32) (x2 : Int32) : Option (Int32 × HP) :=
  if ib x1 196 = true then
  if ib x1 196 = true then
  (some (hset h a0 x1.toNatClampNeg x2)).bind fun h3 =>
  some (h a0 x1.toNatClampNeg, h3)
  else none
  else none
set_option maxHeartbeats 1000000 in
theorem x_M_put {l : Launch} {D : va_G} {ad : Nat → Nat} {aC : Nat → ClassId} (hf : l.flags = flags0) (hI : Inj ad) {h : HP} {a0 : Nat} {x1 : Int32} {x2 : Int32} {r : Int32 × HP} (k0 : knd a0 = 10) (q0 : alen a0 = 196) (e : f_M_put h a0 x1 x2 = some r) : CT l D ad aC m_M_put [.ref a0, .int x1, .int x2] h (.inl (some (.int r.1))) r.2 := by
  refine CT.ofGo (by decide +kernel) rfl (Nat.le_of_ble_eq_true rfl) ?_
  unfold f_M_put at e
  show Go l D ad aC (rmk m_M_put) _ m_M_put 0 [some (.ref a0), some (.int x1), some (.int x2), none] [] h 0 0
  refine Go.run (pc' := 2) [.aload_n 0, .iload_n 1] (ls' := [some (.ref a0), some (.int x1), some (.int x2), none]) (st' := [.int x1, .ref a0]) (by decide +kernel) rfl rfl ?_
  obtain ⟨g1, e⟩ := gd_inv e
  refine Go.iald k0 q0 g1 (by decide +kernel) ?_
  refine Go.run (pc' := 7) [.istore_n 3, .aload_n 0, .iload_n 1, .iload_n 2] (ls' := [some (.ref a0), some (.int x1), some (.int x2), some (.int (h a0 x1.toNatClampNeg))]) (st' := [.int x2, .int x1, .ref a0]) (by decide +kernel) rfl rfl ?_
  obtain ⟨g2, e⟩ := gd_inv e
  refine Go.iast hI k0 q0 g2 (by decide +kernel) ?_
  obtain ⟨h3, q4, e⟩ := bd_inv e
  refine Go.eqH (Option.some.inj q4) ?_
  refine Go.run (pc' := 9) [.iload_n 3] (ls' := [some (.ref a0), some (.int x1), some (.int x2), some (.int (h a0 x1.toNatClampNeg))]) (st' := [.int (h a0 x1.toNatClampNeg)]) (by decide +kernel) rfl rfl ?_
  obtain rfl := Option.some.inj e
  exact Go.iret rfl (by decide) (by decide) (by decide +kernel)
def f_M_addDealer (h : HP) (a0 : Nat) (x1 : Int32) (x2 : Int32) (x3 : Int32) : Option (Int32 × HP) :=
  if ib (185 : Int32) 196 = true then
  (f_M_spot h (h a0 (185 : Int32).toNatClampNeg)).bind fun v2 =>
  if ib (v2 + (0 : Int32)) 196 = true then
  (some (hset h a0 (v2 + (0 : Int32)).toNatClampNeg x1)).bind fun h5 =>
  if ib (v2 + (1 : Int32)) 196 = true then
  (some (hset h5 a0 (v2 + (1 : Int32)).toNatClampNeg x2)).bind fun h8 =>
  if ib (v2 + (2 : Int32)) 196 = true then
  (some (hset h8 a0 (v2 + (2 : Int32)).toNatClampNeg x3)).bind fun h11 =>
  if ib (v2 + (3 : Int32)) 196 = true then
  (some (hset h11 a0 (v2 + (3 : Int32)).toNatClampNeg (-1 : Int32))).bind fun h14 =>
  if ib (v2 + (4 : Int32)) 196 = true then
  (some (hset h14 a0 (v2 + (4 : Int32)).toNatClampNeg (-1 : Int32))).bind fun h17 =>
  if ib (185 : Int32) 196 = true then
  if ib (185 : Int32) 196 = true then
  (some (hset h17 a0 (185 : Int32).toNatClampNeg ((h17 a0 (185 : Int32).toNatClampNeg) + (1 : Int32)))).bind fun h21 =>
  if ib (185 : Int32) 196 = true then
  some ((h21 a0 (185 : Int32).toNatClampNeg) - (1 : Int32), h21)
  else none
  else none
  else none
  else none
  else none
  else none
  else none
  else none
  else none
set_option maxHeartbeats 1000000 in
theorem x_M_addDealer {l : Launch} {D : va_G} {ad : Nat → Nat} {aC : Nat → ClassId} (hf : l.flags = flags0) (hI : Inj ad) {h : HP} {a0 : Nat} {x1 : Int32} {x2 : Int32} {x3 : Int32} {r : Int32 × HP} (k0 : knd a0 = 10) (q0 : alen a0 = 196) (e : f_M_addDealer h a0 x1 x2 x3 = some r) : CT l D ad aC m_M_addDealer [.ref a0, .int x1, .int x2, .int x3] h (.inl (some (.int r.1))) r.2 := by
  refine CT.ofGo (by decide +kernel) rfl (Nat.le_of_ble_eq_true rfl) ?_
  unfold f_M_addDealer at e
  show Go l D ad aC (rmk m_M_addDealer) _ m_M_addDealer 0 [some (.ref a0), some (.int x1), some (.int x2), some (.int x3), none] [] h 0 0
  refine Go.run (pc' := 4) [.aload_n 0, .sipush (185)] (ls' := [some (.ref a0), some (.int x1), some (.int x2), some (.int x3), none]) (st' := [.int (185 : Int32), .ref a0]) (by decide +kernel) rfl rfl ?_
  obtain ⟨g1, e⟩ := gd_inv e
  refine Go.iald k0 q0 g1 (by decide +kernel) ?_
  obtain ⟨v2, e3, e⟩ := bd_inv e
  refine Go.callS (M2 := m_M_spot) (as := [.int (h a0 (185 : Int32).toNatClampNeg)]) (rest := []) (v := some (.int v2)) (h1 := h) (x_M_spot hf hI  e3) ws_M_71 (by decide +kernel) rfl rfl ⟨⟨Nat.le_of_ble_eq_true rfl, Nat.le_of_ble_eq_true rfl⟩, ⟨Nat.le_of_ble_eq_true rfl, Nat.le_of_ble_eq_true rfl⟩⟩ (Nat.le_of_ble_eq_true rfl) ?_
  show Go l D ad aC (rmk m_M_addDealer) _ m_M_addDealer 8 [some (.ref a0), some (.int x1), some (.int x2), some (.int x3), none] [.int v2] h 0 0
  refine Go.run (pc' := 16) [.istore 4, .aload_n 0, .iload 4, .iconst 0, .iadd, .iload_n 1] (ls' := [some (.ref a0), some (.int x1), some (.int x2), some (.int x3), some (.int v2)]) (st' := [.int x1, .int (v2 + (0 : Int32)), .ref a0]) (by decide +kernel) rfl rfl ?_
  obtain ⟨g4, e⟩ := gd_inv e
  refine Go.iast hI k0 q0 g4 (by decide +kernel) ?_
  obtain ⟨h5, q6, e⟩ := bd_inv e
  refine Go.eqH (Option.some.inj q6) ?_
  refine Go.run (pc' := 23) [.aload_n 0, .iload 4, .iconst 1, .iadd, .iload_n 2] (ls' := [some (.ref a0), some (.int x1), some (.int x2), some (.int x3), some (.int v2)]) (st' := [.int x2, .int (v2 + (1 : Int32)), .ref a0]) (by decide +kernel) rfl rfl ?_
  obtain ⟨g7, e⟩ := gd_inv e
  refine Go.iast hI k0 q0 g7 (by decide +kernel) ?_
  obtain ⟨h8, q9, e⟩ := bd_inv e
  refine Go.eqH (Option.some.inj q9) ?_
  refine Go.run (pc' := 30) [.aload_n 0, .iload 4, .iconst 2, .iadd, .iload_n 3] (ls' := [some (.ref a0), some (.int x1), some (.int x2), some (.int x3), some (.int v2)]) (st' := [.int x3, .int (v2 + (2 : Int32)), .ref a0]) (by decide +kernel) rfl rfl ?_
  obtain ⟨g10, e⟩ := gd_inv e
  refine Go.iast hI k0 q0 g10 (by decide +kernel) ?_
  obtain ⟨h11, q12, e⟩ := bd_inv e
  refine Go.eqH (Option.some.inj q12) ?_
  refine Go.run (pc' := 37) [.aload_n 0, .iload 4, .iconst 3, .iadd, .iconst (-1)] (ls' := [some (.ref a0), some (.int x1), some (.int x2), some (.int x3), some (.int v2)]) (st' := [.int (-1 : Int32), .int (v2 + (3 : Int32)), .ref a0]) (by decide +kernel) rfl rfl ?_
  obtain ⟨g13, e⟩ := gd_inv e
  refine Go.iast hI k0 q0 g13 (by decide +kernel) ?_
  obtain ⟨h14, q15, e⟩ := bd_inv e
  refine Go.eqH (Option.some.inj q15) ?_
  refine Go.run (pc' := 44) [.aload_n 0, .iload 4, .iconst 4, .iadd, .iconst (-1)] (ls' := [some (.ref a0), some (.int x1), some (.int x2), some (.int x3), some (.int v2)]) (st' := [.int (-1 : Int32), .int (v2 + (4 : Int32)), .ref a0]) (by decide +kernel) rfl rfl ?_
  obtain ⟨g16, e⟩ := gd_inv e
  refine Go.iast hI k0 q0 g16 (by decide +kernel) ?_
  obtain ⟨h17, q18, e⟩ := bd_inv e
  refine Go.eqH (Option.some.inj q18) ?_
  refine Go.run (pc' := 50) [.aload_n 0, .sipush (185), .dup2] (ls' := [some (.ref a0), some (.int x1), some (.int x2), some (.int x3), some (.int v2)]) (st' := [.int (185 : Int32), .ref a0, .int (185 : Int32), .ref a0]) (by decide +kernel) rfl rfl ?_
  obtain ⟨g19, e⟩ := gd_inv e
  refine Go.iald k0 q0 g19 (by decide +kernel) ?_
  refine Go.run (pc' := 53) [.iconst 1, .iadd] (ls' := [some (.ref a0), some (.int x1), some (.int x2), some (.int x3), some (.int v2)]) (st' := [.int ((h17 a0 (185 : Int32).toNatClampNeg) + (1 : Int32)), .int (185 : Int32), .ref a0]) (by decide +kernel) rfl rfl ?_
  obtain ⟨g20, e⟩ := gd_inv e
  refine Go.iast hI k0 q0 g20 (by decide +kernel) ?_
  obtain ⟨h21, q22, e⟩ := bd_inv e
  refine Go.eqH (Option.some.inj q22) ?_
  refine Go.run (pc' := 58) [.aload_n 0, .sipush (185)] (ls' := [some (.ref a0), some (.int x1), some (.int x2), some (.int x3), some (.int v2)]) (st' := [.int (185 : Int32), .ref a0]) (by decide +kernel) rfl rfl ?_
  obtain ⟨g23, e⟩ := gd_inv e
  refine Go.iald k0 q0 g23 (by decide +kernel) ?_
  refine Go.run (pc' := 61) [.iconst 1, .isub] (ls' := [some (.ref a0), some (.int x1), some (.int x2), some (.int x3), some (.int v2)]) (st' := [.int ((h21 a0 (185 : Int32).toNatClampNeg) - (1 : Int32))]) (by decide +kernel) rfl rfl ?_
  obtain rfl := Option.some.inj e
  exact Go.iret rfl (by decide) (by decide) (by decide +kernel)
def f_M_stand (h : HP) (a0 : Nat) (x1 : Int32) (x2 : Int32) (x3 : Int32) : Option (HP) :=
  (f_M_spot h x1).bind fun v1 =>
  if ib (v1 + (3 : Int32)) 196 = true then
  (some (hset h a0 (v1 + (3 : Int32)).toNatClampNeg x2)).bind fun h4 =>
  (f_M_spot h4 x1).bind fun v6 =>
  if ib (v6 + (4 : Int32)) 196 = true then
  (some (hset h4 a0 (v6 + (4 : Int32)).toNatClampNeg x3)).bind fun h9 =>
  some h9
  else none
  else none
set_option maxHeartbeats 1000000 in
theorem x_M_stand {l : Launch} {D : va_G} {ad : Nat → Nat} {aC : Nat → ClassId} (hf : l.flags = flags0) (hI : Inj ad) {h : HP} {a0 : Nat} {x1 : Int32} {x2 : Int32} {x3 : Int32} {r : HP} (k0 : knd a0 = 10) (q0 : alen a0 = 196) (e : f_M_stand h a0 x1 x2 x3 = some r) : CT l D ad aC m_M_stand [.ref a0, .int x1, .int x2, .int x3] h (.inl none) r := by
  refine CT.ofGo (by decide +kernel) rfl (Nat.le_of_ble_eq_true rfl) ?_
  unfold f_M_stand at e
  show Go l D ad aC (rmk m_M_stand) _ m_M_stand 0 [some (.ref a0), some (.int x1), some (.int x2), some (.int x3)] [] h 0 0
  refine Go.run (pc' := 2) [.aload_n 0, .iload_n 1] (ls' := [some (.ref a0), some (.int x1), some (.int x2), some (.int x3)]) (st' := [.int x1, .ref a0]) (by decide +kernel) rfl rfl ?_
  obtain ⟨v1, e2, e⟩ := bd_inv e
  refine Go.callS (M2 := m_M_spot) (as := [.int x1]) (rest := [.ref a0]) (v := some (.int v1)) (h1 := h) (x_M_spot hf hI  e2) ws_M_71 (by decide +kernel) rfl rfl ⟨⟨Nat.le_of_ble_eq_true rfl, Nat.le_of_ble_eq_true rfl⟩, ⟨Nat.le_of_ble_eq_true rfl, Nat.le_of_ble_eq_true rfl⟩⟩ (Nat.le_of_ble_eq_true rfl) ?_
  show Go l D ad aC (rmk m_M_stand) _ m_M_stand 5 [some (.ref a0), some (.int x1), some (.int x2), some (.int x3)] [.int v1, .ref a0] h 0 0
  refine Go.run (pc' := 8) [.iconst 3, .iadd, .iload_n 2] (ls' := [some (.ref a0), some (.int x1), some (.int x2), some (.int x3)]) (st' := [.int x2, .int (v1 + (3 : Int32)), .ref a0]) (by decide +kernel) rfl rfl ?_
  obtain ⟨g3, e⟩ := gd_inv e
  refine Go.iast hI k0 q0 g3 (by decide +kernel) ?_
  obtain ⟨h4, q5, e⟩ := bd_inv e
  refine Go.eqH (Option.some.inj q5) ?_
  refine Go.run (pc' := 11) [.aload_n 0, .iload_n 1] (ls' := [some (.ref a0), some (.int x1), some (.int x2), some (.int x3)]) (st' := [.int x1, .ref a0]) (by decide +kernel) rfl rfl ?_
  obtain ⟨v6, e7, e⟩ := bd_inv e
  refine Go.callS (M2 := m_M_spot) (as := [.int x1]) (rest := [.ref a0]) (v := some (.int v6)) (h1 := h4) (x_M_spot hf hI  e7) ws_M_71 (by decide +kernel) rfl rfl ⟨⟨Nat.le_of_ble_eq_true rfl, Nat.le_of_ble_eq_true rfl⟩, ⟨Nat.le_of_ble_eq_true rfl, Nat.le_of_ble_eq_true rfl⟩⟩ (Nat.le_of_ble_eq_true rfl) ?_
  show Go l D ad aC (rmk m_M_stand) _ m_M_stand 14 [some (.ref a0), some (.int x1), some (.int x2), some (.int x3)] [.int v6, .ref a0] h4 0 0
  refine Go.run (pc' := 17) [.iconst 4, .iadd, .iload_n 3] (ls' := [some (.ref a0), some (.int x1), some (.int x2), some (.int x3)]) (st' := [.int x3, .int (v6 + (4 : Int32)), .ref a0]) (by decide +kernel) rfl rfl ?_
  obtain ⟨g8, e⟩ := gd_inv e
  refine Go.iast hI k0 q0 g8 (by decide +kernel) ?_
  obtain ⟨h9, q10, e⟩ := bd_inv e
  refine Go.eqH (Option.some.inj q10) ?_
  obtain rfl := Option.some.inj e
  exact Go.vret rfl (by decide) (by decide) (by decide +kernel)
def f_M_whyNoPlace (h : HP) (a0 : Nat) (x1 : Int32) (x2 : Int32) (x3 : Int32) : Option (Int32) :=
  (f_M_stands h a0 x1).bind fun v1 =>
  if v1 = 0 then
    (f_M_spot h x1).bind fun v4 =>
    if ib (v4 + (1 : Int32)) 196 = true then
    (f_M_size h a0 x2).bind fun v7 =>
    if (x3 + (h a0 (v4 + (1 : Int32)).toNatClampNeg)) ≤ v7 then
      (f_M_fits h a0 x1 x2 x3 x1).bind fun v10 =>
      if v10 = 0 then
        some (3 : Int32)
      else
        some (0 : Int32)
    else
      some (2 : Int32)
    else none
  else
    some (1 : Int32)
set_option maxHeartbeats 1000000 in
theorem x_M_whyNoPlace {l : Launch} {D : va_G} {ad : Nat → Nat} {aC : Nat → ClassId} (hf : l.flags = flags0) (hI : Inj ad) {h : HP} {a0 : Nat} {x1 : Int32} {x2 : Int32} {x3 : Int32} {r : Int32} (k0 : knd a0 = 10) (q0 : alen a0 = 196) (e : f_M_whyNoPlace h a0 x1 x2 x3 = some r) : CT l D ad aC m_M_whyNoPlace [.ref a0, .int x1, .int x2, .int x3] h (.inl (some (.int r))) h := by
  refine CT.ofGo (by decide +kernel) rfl (Nat.le_of_ble_eq_true rfl) ?_
  unfold f_M_whyNoPlace at e
  show Go l D ad aC (rmk m_M_whyNoPlace) _ m_M_whyNoPlace 0 [some (.ref a0), some (.int x1), some (.int x2), some (.int x3)] [] h 0 0
  refine Go.run (pc' := 2) [.aload_n 0, .iload_n 1] (ls' := [some (.ref a0), some (.int x1), some (.int x2), some (.int x3)]) (st' := [.int x1, .ref a0]) (by decide +kernel) rfl rfl ?_
  obtain ⟨v1, e2, e⟩ := bd_inv e
  refine Go.callS (M2 := m_M_stands) (as := [.ref a0, .int x1]) (rest := []) (v := some (.int v1)) (h1 := h) (x_M_stands hf hI k0 q0 e2) ws_M_89 (by decide +kernel) rfl rfl ⟨⟨Nat.le_of_ble_eq_true rfl, Nat.le_of_ble_eq_true rfl⟩, ⟨Nat.le_of_ble_eq_true rfl, Nat.le_of_ble_eq_true rfl⟩⟩ (Nat.le_of_ble_eq_true rfl) ?_
  show Go l D ad aC (rmk m_M_whyNoPlace) _ m_M_whyNoPlace 5 [some (.ref a0), some (.int x1), some (.int x2), some (.int x3)] [.int v1] h 0 0
  refine Go.if_eq (off := 5) (tgt := 10) (by decide +kernel) (by decide) (fun c3 => ?_) (fun c3 => ?_)
  · replace e := ite_t c3 e
    refine Go.run (pc' := 13) [.iload_n 3, .aload_n 0, .iload_n 1] (ls' := [some (.ref a0), some (.int x1), some (.int x2), some (.int x3)]) (st' := [.int x1, .ref a0, .int x3]) (by decide +kernel) rfl rfl ?_
    obtain ⟨v4, e5, e⟩ := bd_inv e
    refine Go.callS (M2 := m_M_spot) (as := [.int x1]) (rest := [.ref a0, .int x3]) (v := some (.int v4)) (h1 := h) (x_M_spot hf hI  e5) ws_M_71 (by decide +kernel) rfl rfl ⟨⟨Nat.le_of_ble_eq_true rfl, Nat.le_of_ble_eq_true rfl⟩, ⟨Nat.le_of_ble_eq_true rfl, Nat.le_of_ble_eq_true rfl⟩⟩ (Nat.le_of_ble_eq_true rfl) ?_
    show Go l D ad aC (rmk m_M_whyNoPlace) _ m_M_whyNoPlace 16 [some (.ref a0), some (.int x1), some (.int x2), some (.int x3)] [.int v4, .ref a0, .int x3] h 0 0
    refine Go.run (pc' := 18) [.iconst 1, .iadd] (ls' := [some (.ref a0), some (.int x1), some (.int x2), some (.int x3)]) (st' := [.int (v4 + (1 : Int32)), .ref a0, .int x3]) (by decide +kernel) rfl rfl ?_
    obtain ⟨g6, e⟩ := gd_inv e
    refine Go.iald k0 q0 g6 (by decide +kernel) ?_
    refine Go.run (pc' := 22) [.iadd, .aload_n 0, .iload_n 2] (ls' := [some (.ref a0), some (.int x1), some (.int x2), some (.int x3)]) (st' := [.int x2, .ref a0, .int (x3 + (h a0 (v4 + (1 : Int32)).toNatClampNeg))]) (by decide +kernel) rfl rfl ?_
    obtain ⟨v7, e8, e⟩ := bd_inv e
    refine Go.callS (M2 := m_M_size) (as := [.ref a0, .int x2]) (rest := [.int (x3 + (h a0 (v4 + (1 : Int32)).toNatClampNeg))]) (v := some (.int v7)) (h1 := h) (x_M_size hf hI k0 q0 e8) ws_M_75 (by decide +kernel) rfl rfl ⟨⟨Nat.le_of_ble_eq_true rfl, Nat.le_of_ble_eq_true rfl⟩, ⟨Nat.le_of_ble_eq_true rfl, Nat.le_of_ble_eq_true rfl⟩⟩ (Nat.le_of_ble_eq_true rfl) ?_
    show Go l D ad aC (rmk m_M_whyNoPlace) _ m_M_whyNoPlace 25 [some (.ref a0), some (.int x1), some (.int x2), some (.int x3)] [.int v7, .int (x3 + (h a0 (v4 + (1 : Int32)).toNatClampNeg))] h 0 0
    refine Go.ic_le (off := 7) (tgt := 32) (by decide +kernel) (by decide) (fun c9 => ?_) (fun c9 => ?_)
    · replace e := ite_t c9 e
      refine Go.run (pc' := 37) [.aload_n 0, .iload_n 1, .iload_n 2, .iload_n 3, .iload_n 1] (ls' := [some (.ref a0), some (.int x1), some (.int x2), some (.int x3)]) (st' := [.int x1, .int x3, .int x2, .int x1, .ref a0]) (by decide +kernel) rfl rfl ?_
      obtain ⟨v10, e11, e⟩ := bd_inv e
      refine Go.callS (M2 := m_M_fits) (as := [.ref a0, .int x1, .int x2, .int x3, .int x1]) (rest := []) (v := some (.int v10)) (h1 := h) (x_M_fits hf hI k0 q0 e11) ws_M_115 (by decide +kernel) rfl rfl ⟨⟨Nat.le_of_ble_eq_true rfl, Nat.le_of_ble_eq_true rfl⟩, ⟨Nat.le_of_ble_eq_true rfl, Nat.le_of_ble_eq_true rfl⟩⟩ (Nat.le_of_ble_eq_true rfl) ?_
      show Go l D ad aC (rmk m_M_whyNoPlace) _ m_M_whyNoPlace 40 [some (.ref a0), some (.int x1), some (.int x2), some (.int x3)] [.int v10] h 0 0
      refine Go.if_eq (off := 7) (tgt := 47) (by decide +kernel) (by decide) (fun c12 => ?_) (fun c12 => ?_)
      · replace e := ite_t c12 e
        refine Go.run (pc' := 48) [.iconst 3] (ls' := [some (.ref a0), some (.int x1), some (.int x2), some (.int x3)]) (st' := [.int (3 : Int32)]) (by decide +kernel) rfl rfl ?_
        obtain rfl := Option.some.inj e
        exact Go.iret rfl (by decide) (by decide) (by decide +kernel)
      · replace e := ite_f c12 e
        refine Go.run (pc' := 44) [.iconst 0] (ls' := [some (.ref a0), some (.int x1), some (.int x2), some (.int x3)]) (st' := [.int (0 : Int32)]) (by decide +kernel) rfl rfl ?_
        refine Go.goto (off := 4) (tgt := 48) (by decide +kernel) (by decide) ?_
        obtain rfl := Option.some.inj e
        exact Go.iret rfl (by decide) (by decide) (by decide +kernel)
    · replace e := ite_f c9 e
      refine Go.run (pc' := 29) [.iconst 2] (ls' := [some (.ref a0), some (.int x1), some (.int x2), some (.int x3)]) (st' := [.int (2 : Int32)]) (by decide +kernel) rfl rfl ?_
      refine Go.goto (off := 19) (tgt := 48) (by decide +kernel) (by decide) ?_
      obtain rfl := Option.some.inj e
      exact Go.iret rfl (by decide) (by decide) (by decide +kernel)
  · replace e := ite_f c3 e
    refine Go.run (pc' := 9) [.iconst 1] (ls' := [some (.ref a0), some (.int x1), some (.int x2), some (.int x3)]) (st' := [.int (1 : Int32)]) (by decide +kernel) rfl rfl ?_
    obtain rfl := Option.some.inj e
    exact Go.iret rfl (by decide) (by decide) (by decide +kernel)
def f_M_goPlace (h : HP) (a0 : Nat) (x1 : Int32) (x2 : Int32) (x3 : Int32) : Option (Int32 × HP) :=
  (f_M_whyNoPlace h a0 x1 x2 x3).bind fun v1 =>
  if v1 = 0 then
    (f_M_stand h a0 x1 x2 x3).bind fun v8 =>
    some (v1, v8)
  else
    if ib (188 : Int32) 196 = true then
    if ib (188 : Int32) 196 = true then
    (some (hset h a0 (188 : Int32).toNatClampNeg ((h a0 (188 : Int32).toNatClampNeg) + (1 : Int32)))).bind fun h6 =>
    some (v1, h6)
    else none
    else none
set_option maxHeartbeats 1000000 in
theorem x_M_goPlace {l : Launch} {D : va_G} {ad : Nat → Nat} {aC : Nat → ClassId} (hf : l.flags = flags0) (hI : Inj ad) {h : HP} {a0 : Nat} {x1 : Int32} {x2 : Int32} {x3 : Int32} {r : Int32 × HP} (k0 : knd a0 = 10) (q0 : alen a0 = 196) (e : f_M_goPlace h a0 x1 x2 x3 = some r) : CT l D ad aC m_M_goPlace [.ref a0, .int x1, .int x2, .int x3] h (.inl (some (.int r.1))) r.2 := by
  refine CT.ofGo (by decide +kernel) rfl (Nat.le_of_ble_eq_true rfl) ?_
  unfold f_M_goPlace at e
  show Go l D ad aC (rmk m_M_goPlace) _ m_M_goPlace 0 [some (.ref a0), some (.int x1), some (.int x2), some (.int x3), none] [] h 0 0
  refine Go.run (pc' := 4) [.aload_n 0, .iload_n 1, .iload_n 2, .iload_n 3] (ls' := [some (.ref a0), some (.int x1), some (.int x2), some (.int x3), none]) (st' := [.int x3, .int x2, .int x1, .ref a0]) (by decide +kernel) rfl rfl ?_
  obtain ⟨v1, e2, e⟩ := bd_inv e
  refine Go.callS (M2 := m_M_whyNoPlace) (as := [.ref a0, .int x1, .int x2, .int x3]) (rest := []) (v := some (.int v1)) (h1 := h) (x_M_whyNoPlace hf hI k0 q0 e2) ws_M_119 (by decide +kernel) rfl rfl ⟨⟨Nat.le_of_ble_eq_true rfl, Nat.le_of_ble_eq_true rfl⟩, ⟨Nat.le_of_ble_eq_true rfl, Nat.le_of_ble_eq_true rfl⟩⟩ (Nat.le_of_ble_eq_true rfl) ?_
  show Go l D ad aC (rmk m_M_goPlace) _ m_M_goPlace 7 [some (.ref a0), some (.int x1), some (.int x2), some (.int x3), none] [.int v1] h 0 0
  refine Go.run (pc' := 11) [.istore 4, .iload 4] (ls' := [some (.ref a0), some (.int x1), some (.int x2), some (.int x3), some (.int v1)]) (st' := [.int v1]) (by decide +kernel) rfl rfl ?_
  refine Go.if_ne (off := 13) (tgt := 24) (by decide +kernel) (by decide) (fun c3 => ?_) (fun c3 => ?_)
  · replace e := ite_f c3 e
    refine Go.run (pc' := 29) [.aload_n 0, .sipush (188), .dup2] (ls' := [some (.ref a0), some (.int x1), some (.int x2), some (.int x3), some (.int v1)]) (st' := [.int (188 : Int32), .ref a0, .int (188 : Int32), .ref a0]) (by decide +kernel) rfl rfl ?_
    obtain ⟨g4, e⟩ := gd_inv e
    refine Go.iald k0 q0 g4 (by decide +kernel) ?_
    refine Go.run (pc' := 32) [.iconst 1, .iadd] (ls' := [some (.ref a0), some (.int x1), some (.int x2), some (.int x3), some (.int v1)]) (st' := [.int ((h a0 (188 : Int32).toNatClampNeg) + (1 : Int32)), .int (188 : Int32), .ref a0]) (by decide +kernel) rfl rfl ?_
    obtain ⟨g5, e⟩ := gd_inv e
    refine Go.iast hI k0 q0 g5 (by decide +kernel) ?_
    obtain ⟨h6, q7, e⟩ := bd_inv e
    refine Go.eqH (Option.some.inj q7) ?_
    refine Go.run (pc' := 35) [.iload 4] (ls' := [some (.ref a0), some (.int x1), some (.int x2), some (.int x3), some (.int v1)]) (st' := [.int v1]) (by decide +kernel) rfl rfl ?_
    obtain rfl := Option.some.inj e
    exact Go.iret rfl (by decide) (by decide) (by decide +kernel)
  · replace e := ite_t c3 e
    refine Go.run (pc' := 18) [.aload_n 0, .iload_n 1, .iload_n 2, .iload_n 3] (ls' := [some (.ref a0), some (.int x1), some (.int x2), some (.int x3), some (.int v1)]) (st' := [.int x3, .int x2, .int x1, .ref a0]) (by decide +kernel) rfl rfl ?_
    obtain ⟨v8, e9, e⟩ := bd_inv e
    refine Go.callS (M2 := m_M_stand) (as := [.ref a0, .int x1, .int x2, .int x3]) (rest := []) (v := none) (h1 := v8) (x_M_stand hf hI k0 q0 e9) ws_M_123 (by decide +kernel) rfl rfl ⟨⟨Nat.le_of_ble_eq_true rfl, Nat.le_of_ble_eq_true rfl⟩, ⟨Nat.le_of_ble_eq_true rfl, Nat.le_of_ble_eq_true rfl⟩⟩ (Nat.le_of_ble_eq_true rfl) ?_
    show Go l D ad aC (rmk m_M_goPlace) _ m_M_goPlace 21 [some (.ref a0), some (.int x1), some (.int x2), some (.int x3), some (.int v1)] [] v8 0 0
    refine Go.goto (off := 12) (tgt := 33) (by decide +kernel) (by decide) ?_
    refine Go.run (pc' := 35) [.iload 4] (ls' := [some (.ref a0), some (.int x1), some (.int x2), some (.int x3), some (.int v1)]) (st' := [.int v1]) (by decide +kernel) rfl rfl ?_
    obtain rfl := Option.some.inj e
    exact Go.iret rfl (by decide) (by decide) (by decide +kernel)
def f_M_goLeave (h : HP) (a0 : Nat) (x1 : Int32) : Option (Int32 × HP) :=
  (f_M_stand h a0 x1 (-1 : Int32) (-1 : Int32)).bind fun v1 =>
  (f_M_spot v1 x1).bind fun v3 =>
  if ib (v3 + (5 : Int32)) 196 = true then
  some (v1 a0 (v3 + (5 : Int32)).toNatClampNeg, v1)
  else none
set_option maxHeartbeats 1000000 in
theorem x_M_goLeave {l : Launch} {D : va_G} {ad : Nat → Nat} {aC : Nat → ClassId} (hf : l.flags = flags0) (hI : Inj ad) {h : HP} {a0 : Nat} {x1 : Int32} {r : Int32 × HP} (k0 : knd a0 = 10) (q0 : alen a0 = 196) (e : f_M_goLeave h a0 x1 = some r) : CT l D ad aC m_M_goLeave [.ref a0, .int x1] h (.inl (some (.int r.1))) r.2 := by
  refine CT.ofGo (by decide +kernel) rfl (Nat.le_of_ble_eq_true rfl) ?_
  unfold f_M_goLeave at e
  show Go l D ad aC (rmk m_M_goLeave) _ m_M_goLeave 0 [some (.ref a0), some (.int x1)] [] h 0 0
  refine Go.run (pc' := 4) [.aload_n 0, .iload_n 1, .iconst (-1), .iconst (-1)] (ls' := [some (.ref a0), some (.int x1)]) (st' := [.int (-1 : Int32), .int (-1 : Int32), .int x1, .ref a0]) (by decide +kernel) rfl rfl ?_
  obtain ⟨v1, e2, e⟩ := bd_inv e
  refine Go.callS (M2 := m_M_stand) (as := [.ref a0, .int x1, .int (-1 : Int32), .int (-1 : Int32)]) (rest := []) (v := none) (h1 := v1) (x_M_stand hf hI k0 q0 e2) ws_M_123 (by decide +kernel) rfl rfl ⟨⟨Nat.le_of_ble_eq_true rfl, Nat.le_of_ble_eq_true rfl⟩, ⟨Nat.le_of_ble_eq_true rfl, Nat.le_of_ble_eq_true rfl⟩⟩ (Nat.le_of_ble_eq_true rfl) ?_
  show Go l D ad aC (rmk m_M_goLeave) _ m_M_goLeave 7 [some (.ref a0), some (.int x1)] [] v1 0 0
  refine Go.run (pc' := 9) [.aload_n 0, .iload_n 1] (ls' := [some (.ref a0), some (.int x1)]) (st' := [.int x1, .ref a0]) (by decide +kernel) rfl rfl ?_
  obtain ⟨v3, e4, e⟩ := bd_inv e
  refine Go.callS (M2 := m_M_spot) (as := [.int x1]) (rest := [.ref a0]) (v := some (.int v3)) (h1 := v1) (x_M_spot hf hI  e4) ws_M_71 (by decide +kernel) rfl rfl ⟨⟨Nat.le_of_ble_eq_true rfl, Nat.le_of_ble_eq_true rfl⟩, ⟨Nat.le_of_ble_eq_true rfl, Nat.le_of_ble_eq_true rfl⟩⟩ (Nat.le_of_ble_eq_true rfl) ?_
  show Go l D ad aC (rmk m_M_goLeave) _ m_M_goLeave 12 [some (.ref a0), some (.int x1)] [.int v3, .ref a0] v1 0 0
  refine Go.run (pc' := 14) [.iconst 5, .iadd] (ls' := [some (.ref a0), some (.int x1)]) (st' := [.int (v3 + (5 : Int32)), .ref a0]) (by decide +kernel) rfl rfl ?_
  obtain ⟨g5, e⟩ := gd_inv e
  refine Go.iald k0 q0 g5 (by decide +kernel) ?_
  obtain rfl := Option.some.inj e
  exact Go.iret rfl (by decide) (by decide) (by decide +kernel)
def f_M_exchange (h : HP) (a0 : Nat) (x1 : Int32) (x2 : Int32) : Option (HP) :=
  (f_M_spot h x1).bind fun v1 =>
  if ib (v1 + (3 : Int32)) 196 = true then
  (f_M_spot h x1).bind fun v4 =>
  if ib (v4 + (4 : Int32)) 196 = true then
  (f_M_spot h x2).bind fun v7 =>
  if ib (v7 + (3 : Int32)) 196 = true then
  (f_M_spot h x2).bind fun v10 =>
  if ib (v10 + (4 : Int32)) 196 = true then
  (f_M_stand h a0 x1 (h a0 (v7 + (3 : Int32)).toNatClampNeg) (h a0 (v10 + (4 : Int32)).toNatClampNeg)).bind fun v13 =>
  (f_M_stand v13 a0 x2 (h a0 (v1 + (3 : Int32)).toNatClampNeg) (h a0 (v4 + (4 : Int32)).toNatClampNeg)).bind fun v15 =>
  some v15
  else none
  else none
  else none
  else none
set_option maxHeartbeats 1000000 in
theorem x_M_exchange {l : Launch} {D : va_G} {ad : Nat → Nat} {aC : Nat → ClassId} (hf : l.flags = flags0) (hI : Inj ad) {h : HP} {a0 : Nat} {x1 : Int32} {x2 : Int32} {r : HP} (k0 : knd a0 = 10) (q0 : alen a0 = 196) (e : f_M_exchange h a0 x1 x2 = some r) : CT l D ad aC m_M_exchange [.ref a0, .int x1, .int x2] h (.inl none) r := by
  refine CT.ofGo (by decide +kernel) rfl (Nat.le_of_ble_eq_true rfl) ?_
  unfold f_M_exchange at e
  show Go l D ad aC (rmk m_M_exchange) _ m_M_exchange 0 [some (.ref a0), some (.int x1), some (.int x2), none, none] [] h 0 0
  refine Go.run (pc' := 2) [.aload_n 0, .iload_n 1] (ls' := [some (.ref a0), some (.int x1), some (.int x2), none, none]) (st' := [.int x1, .ref a0]) (by decide +kernel) rfl rfl ?_
  obtain ⟨v1, e2, e⟩ := bd_inv e
  refine Go.callS (M2 := m_M_spot) (as := [.int x1]) (rest := [.ref a0]) (v := some (.int v1)) (h1 := h) (x_M_spot hf hI  e2) ws_M_71 (by decide +kernel) rfl rfl ⟨⟨Nat.le_of_ble_eq_true rfl, Nat.le_of_ble_eq_true rfl⟩, ⟨Nat.le_of_ble_eq_true rfl, Nat.le_of_ble_eq_true rfl⟩⟩ (Nat.le_of_ble_eq_true rfl) ?_
  show Go l D ad aC (rmk m_M_exchange) _ m_M_exchange 5 [some (.ref a0), some (.int x1), some (.int x2), none, none] [.int v1, .ref a0] h 0 0
  refine Go.run (pc' := 7) [.iconst 3, .iadd] (ls' := [some (.ref a0), some (.int x1), some (.int x2), none, none]) (st' := [.int (v1 + (3 : Int32)), .ref a0]) (by decide +kernel) rfl rfl ?_
  obtain ⟨g3, e⟩ := gd_inv e
  refine Go.iald k0 q0 g3 (by decide +kernel) ?_
  refine Go.run (pc' := 11) [.istore_n 3, .aload_n 0, .iload_n 1] (ls' := [some (.ref a0), some (.int x1), some (.int x2), some (.int (h a0 (v1 + (3 : Int32)).toNatClampNeg)), none]) (st' := [.int x1, .ref a0]) (by decide +kernel) rfl rfl ?_
  obtain ⟨v4, e5, e⟩ := bd_inv e
  refine Go.callS (M2 := m_M_spot) (as := [.int x1]) (rest := [.ref a0]) (v := some (.int v4)) (h1 := h) (x_M_spot hf hI  e5) ws_M_71 (by decide +kernel) rfl rfl ⟨⟨Nat.le_of_ble_eq_true rfl, Nat.le_of_ble_eq_true rfl⟩, ⟨Nat.le_of_ble_eq_true rfl, Nat.le_of_ble_eq_true rfl⟩⟩ (Nat.le_of_ble_eq_true rfl) ?_
  show Go l D ad aC (rmk m_M_exchange) _ m_M_exchange 14 [some (.ref a0), some (.int x1), some (.int x2), some (.int (h a0 (v1 + (3 : Int32)).toNatClampNeg)), none] [.int v4, .ref a0] h 0 0
  refine Go.run (pc' := 16) [.iconst 4, .iadd] (ls' := [some (.ref a0), some (.int x1), some (.int x2), some (.int (h a0 (v1 + (3 : Int32)).toNatClampNeg)), none]) (st' := [.int (v4 + (4 : Int32)), .ref a0]) (by decide +kernel) rfl rfl ?_
  obtain ⟨g6, e⟩ := gd_inv e
  refine Go.iald k0 q0 g6 (by decide +kernel) ?_
  refine Go.run (pc' := 23) [.istore 4, .aload_n 0, .iload_n 1, .aload_n 0, .iload_n 2] (ls' := [some (.ref a0), some (.int x1), some (.int x2), some (.int (h a0 (v1 + (3 : Int32)).toNatClampNeg)), some (.int (h a0 (v4 + (4 : Int32)).toNatClampNeg))]) (st' := [.int x2, .ref a0, .int x1, .ref a0]) (by decide +kernel) rfl rfl ?_
  obtain ⟨v7, e8, e⟩ := bd_inv e
  refine Go.callS (M2 := m_M_spot) (as := [.int x2]) (rest := [.ref a0, .int x1, .ref a0]) (v := some (.int v7)) (h1 := h) (x_M_spot hf hI  e8) ws_M_71 (by decide +kernel) rfl rfl ⟨⟨Nat.le_of_ble_eq_true rfl, Nat.le_of_ble_eq_true rfl⟩, ⟨Nat.le_of_ble_eq_true rfl, Nat.le_of_ble_eq_true rfl⟩⟩ (Nat.le_of_ble_eq_true rfl) ?_
  show Go l D ad aC (rmk m_M_exchange) _ m_M_exchange 26 [some (.ref a0), some (.int x1), some (.int x2), some (.int (h a0 (v1 + (3 : Int32)).toNatClampNeg)), some (.int (h a0 (v4 + (4 : Int32)).toNatClampNeg))] [.int v7, .ref a0, .int x1, .ref a0] h 0 0
  refine Go.run (pc' := 28) [.iconst 3, .iadd] (ls' := [some (.ref a0), some (.int x1), some (.int x2), some (.int (h a0 (v1 + (3 : Int32)).toNatClampNeg)), some (.int (h a0 (v4 + (4 : Int32)).toNatClampNeg))]) (st' := [.int (v7 + (3 : Int32)), .ref a0, .int x1, .ref a0]) (by decide +kernel) rfl rfl ?_
  obtain ⟨g9, e⟩ := gd_inv e
  refine Go.iald k0 q0 g9 (by decide +kernel) ?_
  refine Go.run (pc' := 31) [.aload_n 0, .iload_n 2] (ls' := [some (.ref a0), some (.int x1), some (.int x2), some (.int (h a0 (v1 + (3 : Int32)).toNatClampNeg)), some (.int (h a0 (v4 + (4 : Int32)).toNatClampNeg))]) (st' := [.int x2, .ref a0, .int (h a0 (v7 + (3 : Int32)).toNatClampNeg), .int x1, .ref a0]) (by decide +kernel) rfl rfl ?_
  obtain ⟨v10, e11, e⟩ := bd_inv e
  refine Go.callS (M2 := m_M_spot) (as := [.int x2]) (rest := [.ref a0, .int (h a0 (v7 + (3 : Int32)).toNatClampNeg), .int x1, .ref a0]) (v := some (.int v10)) (h1 := h) (x_M_spot hf hI  e11) ws_M_71 (by decide +kernel) rfl rfl ⟨⟨Nat.le_of_ble_eq_true rfl, Nat.le_of_ble_eq_true rfl⟩, ⟨Nat.le_of_ble_eq_true rfl, Nat.le_of_ble_eq_true rfl⟩⟩ (Nat.le_of_ble_eq_true rfl) ?_
  show Go l D ad aC (rmk m_M_exchange) _ m_M_exchange 34 [some (.ref a0), some (.int x1), some (.int x2), some (.int (h a0 (v1 + (3 : Int32)).toNatClampNeg)), some (.int (h a0 (v4 + (4 : Int32)).toNatClampNeg))] [.int v10, .ref a0, .int (h a0 (v7 + (3 : Int32)).toNatClampNeg), .int x1, .ref a0] h 0 0
  refine Go.run (pc' := 36) [.iconst 4, .iadd] (ls' := [some (.ref a0), some (.int x1), some (.int x2), some (.int (h a0 (v1 + (3 : Int32)).toNatClampNeg)), some (.int (h a0 (v4 + (4 : Int32)).toNatClampNeg))]) (st' := [.int (v10 + (4 : Int32)), .ref a0, .int (h a0 (v7 + (3 : Int32)).toNatClampNeg), .int x1, .ref a0]) (by decide +kernel) rfl rfl ?_
  obtain ⟨g12, e⟩ := gd_inv e
  refine Go.iald k0 q0 g12 (by decide +kernel) ?_
  obtain ⟨v13, e14, e⟩ := bd_inv e
  refine Go.callS (M2 := m_M_stand) (as := [.ref a0, .int x1, .int (h a0 (v7 + (3 : Int32)).toNatClampNeg), .int (h a0 (v10 + (4 : Int32)).toNatClampNeg)]) (rest := []) (v := none) (h1 := v13) (x_M_stand hf hI k0 q0 e14) ws_M_123 (by decide +kernel) rfl rfl ⟨⟨Nat.le_of_ble_eq_true rfl, Nat.le_of_ble_eq_true rfl⟩, ⟨Nat.le_of_ble_eq_true rfl, Nat.le_of_ble_eq_true rfl⟩⟩ (Nat.le_of_ble_eq_true rfl) ?_
  show Go l D ad aC (rmk m_M_exchange) _ m_M_exchange 40 [some (.ref a0), some (.int x1), some (.int x2), some (.int (h a0 (v1 + (3 : Int32)).toNatClampNeg)), some (.int (h a0 (v4 + (4 : Int32)).toNatClampNeg))] [] v13 0 0
  refine Go.run (pc' := 45) [.aload_n 0, .iload_n 2, .iload_n 3, .iload 4] (ls' := [some (.ref a0), some (.int x1), some (.int x2), some (.int (h a0 (v1 + (3 : Int32)).toNatClampNeg)), some (.int (h a0 (v4 + (4 : Int32)).toNatClampNeg))]) (st' := [.int (h a0 (v4 + (4 : Int32)).toNatClampNeg), .int (h a0 (v1 + (3 : Int32)).toNatClampNeg), .int x2, .ref a0]) (by decide +kernel) rfl rfl ?_
  obtain ⟨v15, e16, e⟩ := bd_inv e
  refine Go.callS (M2 := m_M_stand) (as := [.ref a0, .int x2, .int (h a0 (v1 + (3 : Int32)).toNatClampNeg), .int (h a0 (v4 + (4 : Int32)).toNatClampNeg)]) (rest := []) (v := none) (h1 := v15) (x_M_stand hf hI k0 q0 e16) ws_M_123 (by decide +kernel) rfl rfl ⟨⟨Nat.le_of_ble_eq_true rfl, Nat.le_of_ble_eq_true rfl⟩, ⟨Nat.le_of_ble_eq_true rfl, Nat.le_of_ble_eq_true rfl⟩⟩ (Nat.le_of_ble_eq_true rfl) ?_
  show Go l D ad aC (rmk m_M_exchange) _ m_M_exchange 48 [some (.ref a0), some (.int x1), some (.int x2), some (.int (h a0 (v1 + (3 : Int32)).toNatClampNeg)), some (.int (h a0 (v4 + (4 : Int32)).toNatClampNeg))] [] v15 0 0
  obtain rfl := Option.some.inj e
  exact Go.vret rfl (by decide) (by decide) (by decide +kernel)
def f_M_whyNoSwap (h : HP) (a0 : Nat) (x1 : Int32) (x2 : Int32) : Option (Int32 × HP) :=
  (f_M_stands h a0 x1).bind fun v1 =>
  if v1 = 0 then
    some ((1 : Int32), h)
  else
    (f_M_stands h a0 x2).bind fun v4 =>
    if v4 = 0 then
      some ((1 : Int32), h)
    else
      if ib (187 : Int32) 196 = true then
      if ib (195 : Int32) 196 = true then
      if (h a0 (187 : Int32).toNatClampNeg) < (h a0 (195 : Int32).toNatClampNeg) then
        (f_M_spot h x1).bind fun v10 =>
        if ib (v10 + (3 : Int32)) 196 = true then
        (f_M_spot h x1).bind fun v13 =>
        if ib (v13 + (4 : Int32)) 196 = true then
        (f_M_spot h x2).bind fun v16 =>
        if ib (v16 + (3 : Int32)) 196 = true then
        (f_M_spot h x2).bind fun v19 =>
        if ib (v19 + (4 : Int32)) 196 = true then
        (f_M_fits h a0 x1 (h a0 (v16 + (3 : Int32)).toNatClampNeg) (h a0 (v19 + (4 : Int32)).toNatClampNeg) x2).bind fun v22 =>
        if v22 = 0 then
          some ((3 : Int32), h)
        else
          (f_M_stand h a0 x2 (-1 : Int32) (-1 : Int32)).bind fun v25 =>
          (f_M_stand v25 a0 x1 (h a0 (v16 + (3 : Int32)).toNatClampNeg) (h a0 (v19 + (4 : Int32)).toNatClampNeg)).bind fun v27 =>
          (f_M_fits v27 a0 x2 (h a0 (v10 + (3 : Int32)).toNatClampNeg) (h a0 (v13 + (4 : Int32)).toNatClampNeg) x2).bind fun v29 =>
          (f_M_stand v27 a0 x1 (h a0 (v10 + (3 : Int32)).toNatClampNeg) (h a0 (v13 + (4 : Int32)).toNatClampNeg)).bind fun v31 =>
          (f_M_stand v31 a0 x2 (h a0 (v16 + (3 : Int32)).toNatClampNeg) (h a0 (v19 + (4 : Int32)).toNatClampNeg)).bind fun v33 =>
          if v29 = 0 then
            some ((4 : Int32), v33)
          else
            some ((0 : Int32), v33)
        else none
        else none
        else none
        else none
      else
        some ((2 : Int32), h)
      else none
      else none
set_option maxHeartbeats 1000000 in
theorem x_M_whyNoSwap {l : Launch} {D : va_G} {ad : Nat → Nat} {aC : Nat → ClassId} (hf : l.flags = flags0) (hI : Inj ad) {h : HP} {a0 : Nat} {x1 : Int32} {x2 : Int32} {r : Int32 × HP} (k0 : knd a0 = 10) (q0 : alen a0 = 196) (e : f_M_whyNoSwap h a0 x1 x2 = some r) : CT l D ad aC m_M_whyNoSwap [.ref a0, .int x1, .int x2] h (.inl (some (.int r.1))) r.2 := by
  refine CT.ofGo (by decide +kernel) rfl (Nat.le_of_ble_eq_true rfl) ?_
  unfold f_M_whyNoSwap at e
  show Go l D ad aC (rmk m_M_whyNoSwap) _ m_M_whyNoSwap 0 [some (.ref a0), some (.int x1), some (.int x2), none, none, none, none, none] [] h 0 0
  refine Go.run (pc' := 2) [.aload_n 0, .iload_n 1] (ls' := [some (.ref a0), some (.int x1), some (.int x2), none, none, none, none, none]) (st' := [.int x1, .ref a0]) (by decide +kernel) rfl rfl ?_
  obtain ⟨v1, e2, e⟩ := bd_inv e
  refine Go.callS (M2 := m_M_stands) (as := [.ref a0, .int x1]) (rest := []) (v := some (.int v1)) (h1 := h) (x_M_stands hf hI k0 q0 e2) ws_M_89 (by decide +kernel) rfl rfl ⟨⟨Nat.le_of_ble_eq_true rfl, Nat.le_of_ble_eq_true rfl⟩, ⟨Nat.le_of_ble_eq_true rfl, Nat.le_of_ble_eq_true rfl⟩⟩ (Nat.le_of_ble_eq_true rfl) ?_
  show Go l D ad aC (rmk m_M_whyNoSwap) _ m_M_whyNoSwap 5 [some (.ref a0), some (.int x1), some (.int x2), none, none, none, none, none] [.int v1] h 0 0
  refine Go.if_eq (off := 11) (tgt := 16) (by decide +kernel) (by decide) (fun c3 => ?_) (fun c3 => ?_)
  · replace e := ite_t c3 e
    refine Go.run (pc' := 17) [.iconst 1] (ls' := [some (.ref a0), some (.int x1), some (.int x2), none, none, none, none, none]) (st' := [.int (1 : Int32)]) (by decide +kernel) rfl rfl ?_
    obtain rfl := Option.some.inj e
    exact Go.iret rfl (by decide) (by decide) (by decide +kernel)
  · replace e := ite_f c3 e
    refine Go.run (pc' := 10) [.aload_n 0, .iload_n 2] (ls' := [some (.ref a0), some (.int x1), some (.int x2), none, none, none, none, none]) (st' := [.int x2, .ref a0]) (by decide +kernel) rfl rfl ?_
    obtain ⟨v4, e5, e⟩ := bd_inv e
    refine Go.callS (M2 := m_M_stands) (as := [.ref a0, .int x2]) (rest := []) (v := some (.int v4)) (h1 := h) (x_M_stands hf hI k0 q0 e5) ws_M_89 (by decide +kernel) rfl rfl ⟨⟨Nat.le_of_ble_eq_true rfl, Nat.le_of_ble_eq_true rfl⟩, ⟨Nat.le_of_ble_eq_true rfl, Nat.le_of_ble_eq_true rfl⟩⟩ (Nat.le_of_ble_eq_true rfl) ?_
    show Go l D ad aC (rmk m_M_whyNoSwap) _ m_M_whyNoSwap 13 [some (.ref a0), some (.int x1), some (.int x2), none, none, none, none, none] [.int v4] h 0 0
    refine Go.if_ne (off := 5) (tgt := 18) (by decide +kernel) (by decide) (fun c6 => ?_) (fun c6 => ?_)
    · replace e := ite_f c6 e
      refine Go.run (pc' := 22) [.aload_n 0, .sipush (187)] (ls' := [some (.ref a0), some (.int x1), some (.int x2), none, none, none, none, none]) (st' := [.int (187 : Int32), .ref a0]) (by decide +kernel) rfl rfl ?_
      obtain ⟨g7, e⟩ := gd_inv e
      refine Go.iald k0 q0 g7 (by decide +kernel) ?_
      refine Go.run (pc' := 27) [.aload_n 0, .sipush (195)] (ls' := [some (.ref a0), some (.int x1), some (.int x2), none, none, none, none, none]) (st' := [.int (195 : Int32), .ref a0, .int (h a0 (187 : Int32).toNatClampNeg)]) (by decide +kernel) rfl rfl ?_
      obtain ⟨g8, e⟩ := gd_inv e
      refine Go.iald k0 q0 g8 (by decide +kernel) ?_
      refine Go.ic_lt (off := 5) (tgt := 33) (by decide +kernel) (by decide) (fun c9 => ?_) (fun c9 => ?_)
      · replace e := ite_t c9 e
        refine Go.run (pc' := 35) [.aload_n 0, .iload_n 1] (ls' := [some (.ref a0), some (.int x1), some (.int x2), none, none, none, none, none]) (st' := [.int x1, .ref a0]) (by decide +kernel) rfl rfl ?_
        obtain ⟨v10, e11, e⟩ := bd_inv e
        refine Go.callS (M2 := m_M_spot) (as := [.int x1]) (rest := [.ref a0]) (v := some (.int v10)) (h1 := h) (x_M_spot hf hI  e11) ws_M_71 (by decide +kernel) rfl rfl ⟨⟨Nat.le_of_ble_eq_true rfl, Nat.le_of_ble_eq_true rfl⟩, ⟨Nat.le_of_ble_eq_true rfl, Nat.le_of_ble_eq_true rfl⟩⟩ (Nat.le_of_ble_eq_true rfl) ?_
        show Go l D ad aC (rmk m_M_whyNoSwap) _ m_M_whyNoSwap 38 [some (.ref a0), some (.int x1), some (.int x2), none, none, none, none, none] [.int v10, .ref a0] h 0 0
        refine Go.run (pc' := 40) [.iconst 3, .iadd] (ls' := [some (.ref a0), some (.int x1), some (.int x2), none, none, none, none, none]) (st' := [.int (v10 + (3 : Int32)), .ref a0]) (by decide +kernel) rfl rfl ?_
        obtain ⟨g12, e⟩ := gd_inv e
        refine Go.iald k0 q0 g12 (by decide +kernel) ?_
        refine Go.run (pc' := 44) [.istore_n 3, .aload_n 0, .iload_n 1] (ls' := [some (.ref a0), some (.int x1), some (.int x2), some (.int (h a0 (v10 + (3 : Int32)).toNatClampNeg)), none, none, none, none]) (st' := [.int x1, .ref a0]) (by decide +kernel) rfl rfl ?_
        obtain ⟨v13, e14, e⟩ := bd_inv e
        refine Go.callS (M2 := m_M_spot) (as := [.int x1]) (rest := [.ref a0]) (v := some (.int v13)) (h1 := h) (x_M_spot hf hI  e14) ws_M_71 (by decide +kernel) rfl rfl ⟨⟨Nat.le_of_ble_eq_true rfl, Nat.le_of_ble_eq_true rfl⟩, ⟨Nat.le_of_ble_eq_true rfl, Nat.le_of_ble_eq_true rfl⟩⟩ (Nat.le_of_ble_eq_true rfl) ?_
        show Go l D ad aC (rmk m_M_whyNoSwap) _ m_M_whyNoSwap 47 [some (.ref a0), some (.int x1), some (.int x2), some (.int (h a0 (v10 + (3 : Int32)).toNatClampNeg)), none, none, none, none] [.int v13, .ref a0] h 0 0
        refine Go.run (pc' := 49) [.iconst 4, .iadd] (ls' := [some (.ref a0), some (.int x1), some (.int x2), some (.int (h a0 (v10 + (3 : Int32)).toNatClampNeg)), none, none, none, none]) (st' := [.int (v13 + (4 : Int32)), .ref a0]) (by decide +kernel) rfl rfl ?_
        obtain ⟨g15, e⟩ := gd_inv e
        refine Go.iald k0 q0 g15 (by decide +kernel) ?_
        refine Go.run (pc' := 54) [.istore 4, .aload_n 0, .iload_n 2] (ls' := [some (.ref a0), some (.int x1), some (.int x2), some (.int (h a0 (v10 + (3 : Int32)).toNatClampNeg)), some (.int (h a0 (v13 + (4 : Int32)).toNatClampNeg)), none, none, none]) (st' := [.int x2, .ref a0]) (by decide +kernel) rfl rfl ?_
        obtain ⟨v16, e17, e⟩ := bd_inv e
        refine Go.callS (M2 := m_M_spot) (as := [.int x2]) (rest := [.ref a0]) (v := some (.int v16)) (h1 := h) (x_M_spot hf hI  e17) ws_M_71 (by decide +kernel) rfl rfl ⟨⟨Nat.le_of_ble_eq_true rfl, Nat.le_of_ble_eq_true rfl⟩, ⟨Nat.le_of_ble_eq_true rfl, Nat.le_of_ble_eq_true rfl⟩⟩ (Nat.le_of_ble_eq_true rfl) ?_
        show Go l D ad aC (rmk m_M_whyNoSwap) _ m_M_whyNoSwap 57 [some (.ref a0), some (.int x1), some (.int x2), some (.int (h a0 (v10 + (3 : Int32)).toNatClampNeg)), some (.int (h a0 (v13 + (4 : Int32)).toNatClampNeg)), none, none, none] [.int v16, .ref a0] h 0 0
        refine Go.run (pc' := 59) [.iconst 3, .iadd] (ls' := [some (.ref a0), some (.int x1), some (.int x2), some (.int (h a0 (v10 + (3 : Int32)).toNatClampNeg)), some (.int (h a0 (v13 + (4 : Int32)).toNatClampNeg)), none, none, none]) (st' := [.int (v16 + (3 : Int32)), .ref a0]) (by decide +kernel) rfl rfl ?_
        obtain ⟨g18, e⟩ := gd_inv e
        refine Go.iald k0 q0 g18 (by decide +kernel) ?_
        refine Go.run (pc' := 64) [.istore 5, .aload_n 0, .iload_n 2] (ls' := [some (.ref a0), some (.int x1), some (.int x2), some (.int (h a0 (v10 + (3 : Int32)).toNatClampNeg)), some (.int (h a0 (v13 + (4 : Int32)).toNatClampNeg)), some (.int (h a0 (v16 + (3 : Int32)).toNatClampNeg)), none, none]) (st' := [.int x2, .ref a0]) (by decide +kernel) rfl rfl ?_
        obtain ⟨v19, e20, e⟩ := bd_inv e
        refine Go.callS (M2 := m_M_spot) (as := [.int x2]) (rest := [.ref a0]) (v := some (.int v19)) (h1 := h) (x_M_spot hf hI  e20) ws_M_71 (by decide +kernel) rfl rfl ⟨⟨Nat.le_of_ble_eq_true rfl, Nat.le_of_ble_eq_true rfl⟩, ⟨Nat.le_of_ble_eq_true rfl, Nat.le_of_ble_eq_true rfl⟩⟩ (Nat.le_of_ble_eq_true rfl) ?_
        show Go l D ad aC (rmk m_M_whyNoSwap) _ m_M_whyNoSwap 67 [some (.ref a0), some (.int x1), some (.int x2), some (.int (h a0 (v10 + (3 : Int32)).toNatClampNeg)), some (.int (h a0 (v13 + (4 : Int32)).toNatClampNeg)), some (.int (h a0 (v16 + (3 : Int32)).toNatClampNeg)), none, none] [.int v19, .ref a0] h 0 0
        refine Go.run (pc' := 69) [.iconst 4, .iadd] (ls' := [some (.ref a0), some (.int x1), some (.int x2), some (.int (h a0 (v10 + (3 : Int32)).toNatClampNeg)), some (.int (h a0 (v13 + (4 : Int32)).toNatClampNeg)), some (.int (h a0 (v16 + (3 : Int32)).toNatClampNeg)), none, none]) (st' := [.int (v19 + (4 : Int32)), .ref a0]) (by decide +kernel) rfl rfl ?_
        obtain ⟨g21, e⟩ := gd_inv e
        refine Go.iald k0 q0 g21 (by decide +kernel) ?_
        refine Go.run (pc' := 79) [.istore 6, .aload_n 0, .iload_n 1, .iload 5, .iload 6, .iload_n 2] (ls' := [some (.ref a0), some (.int x1), some (.int x2), some (.int (h a0 (v10 + (3 : Int32)).toNatClampNeg)), some (.int (h a0 (v13 + (4 : Int32)).toNatClampNeg)), some (.int (h a0 (v16 + (3 : Int32)).toNatClampNeg)), some (.int (h a0 (v19 + (4 : Int32)).toNatClampNeg)), none]) (st' := [.int x2, .int (h a0 (v19 + (4 : Int32)).toNatClampNeg), .int (h a0 (v16 + (3 : Int32)).toNatClampNeg), .int x1, .ref a0]) (by decide +kernel) rfl rfl ?_
        obtain ⟨v22, e23, e⟩ := bd_inv e
        refine Go.callS (M2 := m_M_fits) (as := [.ref a0, .int x1, .int (h a0 (v16 + (3 : Int32)).toNatClampNeg), .int (h a0 (v19 + (4 : Int32)).toNatClampNeg), .int x2]) (rest := []) (v := some (.int v22)) (h1 := h) (x_M_fits hf hI k0 q0 e23) ws_M_115 (by decide +kernel) rfl rfl ⟨⟨Nat.le_of_ble_eq_true rfl, Nat.le_of_ble_eq_true rfl⟩, ⟨Nat.le_of_ble_eq_true rfl, Nat.le_of_ble_eq_true rfl⟩⟩ (Nat.le_of_ble_eq_true rfl) ?_
        show Go l D ad aC (rmk m_M_whyNoSwap) _ m_M_whyNoSwap 82 [some (.ref a0), some (.int x1), some (.int x2), some (.int (h a0 (v10 + (3 : Int32)).toNatClampNeg)), some (.int (h a0 (v13 + (4 : Int32)).toNatClampNeg)), some (.int (h a0 (v16 + (3 : Int32)).toNatClampNeg)), some (.int (h a0 (v19 + (4 : Int32)).toNatClampNeg)), none] [.int v22] h 0 0
        refine Go.if_ne (off := 5) (tgt := 87) (by decide +kernel) (by decide) (fun c24 => ?_) (fun c24 => ?_)
        · replace e := ite_f c24 e
          refine Go.run (pc' := 91) [.aload_n 0, .iload_n 2, .iconst (-1), .iconst (-1)] (ls' := [some (.ref a0), some (.int x1), some (.int x2), some (.int (h a0 (v10 + (3 : Int32)).toNatClampNeg)), some (.int (h a0 (v13 + (4 : Int32)).toNatClampNeg)), some (.int (h a0 (v16 + (3 : Int32)).toNatClampNeg)), some (.int (h a0 (v19 + (4 : Int32)).toNatClampNeg)), none]) (st' := [.int (-1 : Int32), .int (-1 : Int32), .int x2, .ref a0]) (by decide +kernel) rfl rfl ?_
          obtain ⟨v25, e26, e⟩ := bd_inv e
          refine Go.callS (M2 := m_M_stand) (as := [.ref a0, .int x2, .int (-1 : Int32), .int (-1 : Int32)]) (rest := []) (v := none) (h1 := v25) (x_M_stand hf hI k0 q0 e26) ws_M_123 (by decide +kernel) rfl rfl ⟨⟨Nat.le_of_ble_eq_true rfl, Nat.le_of_ble_eq_true rfl⟩, ⟨Nat.le_of_ble_eq_true rfl, Nat.le_of_ble_eq_true rfl⟩⟩ (Nat.le_of_ble_eq_true rfl) ?_
          show Go l D ad aC (rmk m_M_whyNoSwap) _ m_M_whyNoSwap 94 [some (.ref a0), some (.int x1), some (.int x2), some (.int (h a0 (v10 + (3 : Int32)).toNatClampNeg)), some (.int (h a0 (v13 + (4 : Int32)).toNatClampNeg)), some (.int (h a0 (v16 + (3 : Int32)).toNatClampNeg)), some (.int (h a0 (v19 + (4 : Int32)).toNatClampNeg)), none] [] v25 0 0
          refine Go.run (pc' := 100) [.aload_n 0, .iload_n 1, .iload 5, .iload 6] (ls' := [some (.ref a0), some (.int x1), some (.int x2), some (.int (h a0 (v10 + (3 : Int32)).toNatClampNeg)), some (.int (h a0 (v13 + (4 : Int32)).toNatClampNeg)), some (.int (h a0 (v16 + (3 : Int32)).toNatClampNeg)), some (.int (h a0 (v19 + (4 : Int32)).toNatClampNeg)), none]) (st' := [.int (h a0 (v19 + (4 : Int32)).toNatClampNeg), .int (h a0 (v16 + (3 : Int32)).toNatClampNeg), .int x1, .ref a0]) (by decide +kernel) rfl rfl ?_
          obtain ⟨v27, e28, e⟩ := bd_inv e
          refine Go.callS (M2 := m_M_stand) (as := [.ref a0, .int x1, .int (h a0 (v16 + (3 : Int32)).toNatClampNeg), .int (h a0 (v19 + (4 : Int32)).toNatClampNeg)]) (rest := []) (v := none) (h1 := v27) (x_M_stand hf hI k0 q0 e28) ws_M_123 (by decide +kernel) rfl rfl ⟨⟨Nat.le_of_ble_eq_true rfl, Nat.le_of_ble_eq_true rfl⟩, ⟨Nat.le_of_ble_eq_true rfl, Nat.le_of_ble_eq_true rfl⟩⟩ (Nat.le_of_ble_eq_true rfl) ?_
          show Go l D ad aC (rmk m_M_whyNoSwap) _ m_M_whyNoSwap 103 [some (.ref a0), some (.int x1), some (.int x2), some (.int (h a0 (v10 + (3 : Int32)).toNatClampNeg)), some (.int (h a0 (v13 + (4 : Int32)).toNatClampNeg)), some (.int (h a0 (v16 + (3 : Int32)).toNatClampNeg)), some (.int (h a0 (v19 + (4 : Int32)).toNatClampNeg)), none] [] v27 0 0
          refine Go.run (pc' := 109) [.aload_n 0, .iload_n 2, .iload_n 3, .iload 4, .iload_n 2] (ls' := [some (.ref a0), some (.int x1), some (.int x2), some (.int (h a0 (v10 + (3 : Int32)).toNatClampNeg)), some (.int (h a0 (v13 + (4 : Int32)).toNatClampNeg)), some (.int (h a0 (v16 + (3 : Int32)).toNatClampNeg)), some (.int (h a0 (v19 + (4 : Int32)).toNatClampNeg)), none]) (st' := [.int x2, .int (h a0 (v13 + (4 : Int32)).toNatClampNeg), .int (h a0 (v10 + (3 : Int32)).toNatClampNeg), .int x2, .ref a0]) (by decide +kernel) rfl rfl ?_
          obtain ⟨v29, e30, e⟩ := bd_inv e
          refine Go.callS (M2 := m_M_fits) (as := [.ref a0, .int x2, .int (h a0 (v10 + (3 : Int32)).toNatClampNeg), .int (h a0 (v13 + (4 : Int32)).toNatClampNeg), .int x2]) (rest := []) (v := some (.int v29)) (h1 := v27) (x_M_fits hf hI k0 q0 e30) ws_M_115 (by decide +kernel) rfl rfl ⟨⟨Nat.le_of_ble_eq_true rfl, Nat.le_of_ble_eq_true rfl⟩, ⟨Nat.le_of_ble_eq_true rfl, Nat.le_of_ble_eq_true rfl⟩⟩ (Nat.le_of_ble_eq_true rfl) ?_
          show Go l D ad aC (rmk m_M_whyNoSwap) _ m_M_whyNoSwap 112 [some (.ref a0), some (.int x1), some (.int x2), some (.int (h a0 (v10 + (3 : Int32)).toNatClampNeg)), some (.int (h a0 (v13 + (4 : Int32)).toNatClampNeg)), some (.int (h a0 (v16 + (3 : Int32)).toNatClampNeg)), some (.int (h a0 (v19 + (4 : Int32)).toNatClampNeg)), none] [.int v29] v27 0 0
          refine Go.run (pc' := 119) [.istore 7, .aload_n 0, .iload_n 1, .iload_n 3, .iload 4] (ls' := [some (.ref a0), some (.int x1), some (.int x2), some (.int (h a0 (v10 + (3 : Int32)).toNatClampNeg)), some (.int (h a0 (v13 + (4 : Int32)).toNatClampNeg)), some (.int (h a0 (v16 + (3 : Int32)).toNatClampNeg)), some (.int (h a0 (v19 + (4 : Int32)).toNatClampNeg)), some (.int v29)]) (st' := [.int (h a0 (v13 + (4 : Int32)).toNatClampNeg), .int (h a0 (v10 + (3 : Int32)).toNatClampNeg), .int x1, .ref a0]) (by decide +kernel) rfl rfl ?_
          obtain ⟨v31, e32, e⟩ := bd_inv e
          refine Go.callS (M2 := m_M_stand) (as := [.ref a0, .int x1, .int (h a0 (v10 + (3 : Int32)).toNatClampNeg), .int (h a0 (v13 + (4 : Int32)).toNatClampNeg)]) (rest := []) (v := none) (h1 := v31) (x_M_stand hf hI k0 q0 e32) ws_M_123 (by decide +kernel) rfl rfl ⟨⟨Nat.le_of_ble_eq_true rfl, Nat.le_of_ble_eq_true rfl⟩, ⟨Nat.le_of_ble_eq_true rfl, Nat.le_of_ble_eq_true rfl⟩⟩ (Nat.le_of_ble_eq_true rfl) ?_
          show Go l D ad aC (rmk m_M_whyNoSwap) _ m_M_whyNoSwap 122 [some (.ref a0), some (.int x1), some (.int x2), some (.int (h a0 (v10 + (3 : Int32)).toNatClampNeg)), some (.int (h a0 (v13 + (4 : Int32)).toNatClampNeg)), some (.int (h a0 (v16 + (3 : Int32)).toNatClampNeg)), some (.int (h a0 (v19 + (4 : Int32)).toNatClampNeg)), some (.int v29)] [] v31 0 0
          refine Go.run (pc' := 128) [.aload_n 0, .iload_n 2, .iload 5, .iload 6] (ls' := [some (.ref a0), some (.int x1), some (.int x2), some (.int (h a0 (v10 + (3 : Int32)).toNatClampNeg)), some (.int (h a0 (v13 + (4 : Int32)).toNatClampNeg)), some (.int (h a0 (v16 + (3 : Int32)).toNatClampNeg)), some (.int (h a0 (v19 + (4 : Int32)).toNatClampNeg)), some (.int v29)]) (st' := [.int (h a0 (v19 + (4 : Int32)).toNatClampNeg), .int (h a0 (v16 + (3 : Int32)).toNatClampNeg), .int x2, .ref a0]) (by decide +kernel) rfl rfl ?_
          obtain ⟨v33, e34, e⟩ := bd_inv e
          refine Go.callS (M2 := m_M_stand) (as := [.ref a0, .int x2, .int (h a0 (v16 + (3 : Int32)).toNatClampNeg), .int (h a0 (v19 + (4 : Int32)).toNatClampNeg)]) (rest := []) (v := none) (h1 := v33) (x_M_stand hf hI k0 q0 e34) ws_M_123 (by decide +kernel) rfl rfl ⟨⟨Nat.le_of_ble_eq_true rfl, Nat.le_of_ble_eq_true rfl⟩, ⟨Nat.le_of_ble_eq_true rfl, Nat.le_of_ble_eq_true rfl⟩⟩ (Nat.le_of_ble_eq_true rfl) ?_
          show Go l D ad aC (rmk m_M_whyNoSwap) _ m_M_whyNoSwap 131 [some (.ref a0), some (.int x1), some (.int x2), some (.int (h a0 (v10 + (3 : Int32)).toNatClampNeg)), some (.int (h a0 (v13 + (4 : Int32)).toNatClampNeg)), some (.int (h a0 (v16 + (3 : Int32)).toNatClampNeg)), some (.int (h a0 (v19 + (4 : Int32)).toNatClampNeg)), some (.int v29)] [] v33 0 0
          refine Go.run (pc' := 133) [.iload 7] (ls' := [some (.ref a0), some (.int x1), some (.int x2), some (.int (h a0 (v10 + (3 : Int32)).toNatClampNeg)), some (.int (h a0 (v13 + (4 : Int32)).toNatClampNeg)), some (.int (h a0 (v16 + (3 : Int32)).toNatClampNeg)), some (.int (h a0 (v19 + (4 : Int32)).toNatClampNeg)), some (.int v29)]) (st' := [.int v29]) (by decide +kernel) rfl rfl ?_
          refine Go.if_eq (off := 7) (tgt := 140) (by decide +kernel) (by decide) (fun c35 => ?_) (fun c35 => ?_)
          · replace e := ite_t c35 e
            refine Go.run (pc' := 141) [.iconst 4] (ls' := [some (.ref a0), some (.int x1), some (.int x2), some (.int (h a0 (v10 + (3 : Int32)).toNatClampNeg)), some (.int (h a0 (v13 + (4 : Int32)).toNatClampNeg)), some (.int (h a0 (v16 + (3 : Int32)).toNatClampNeg)), some (.int (h a0 (v19 + (4 : Int32)).toNatClampNeg)), some (.int v29)]) (st' := [.int (4 : Int32)]) (by decide +kernel) rfl rfl ?_
            obtain rfl := Option.some.inj e
            exact Go.iret rfl (by decide) (by decide) (by decide +kernel)
          · replace e := ite_f c35 e
            refine Go.run (pc' := 137) [.iconst 0] (ls' := [some (.ref a0), some (.int x1), some (.int x2), some (.int (h a0 (v10 + (3 : Int32)).toNatClampNeg)), some (.int (h a0 (v13 + (4 : Int32)).toNatClampNeg)), some (.int (h a0 (v16 + (3 : Int32)).toNatClampNeg)), some (.int (h a0 (v19 + (4 : Int32)).toNatClampNeg)), some (.int v29)]) (st' := [.int (0 : Int32)]) (by decide +kernel) rfl rfl ?_
            refine Go.goto (off := 4) (tgt := 141) (by decide +kernel) (by decide) ?_
            obtain rfl := Option.some.inj e
            exact Go.iret rfl (by decide) (by decide) (by decide +kernel)
        · replace e := ite_t c24 e
          refine Go.run (pc' := 86) [.iconst 3] (ls' := [some (.ref a0), some (.int x1), some (.int x2), some (.int (h a0 (v10 + (3 : Int32)).toNatClampNeg)), some (.int (h a0 (v13 + (4 : Int32)).toNatClampNeg)), some (.int (h a0 (v16 + (3 : Int32)).toNatClampNeg)), some (.int (h a0 (v19 + (4 : Int32)).toNatClampNeg)), none]) (st' := [.int (3 : Int32)]) (by decide +kernel) rfl rfl ?_
          obtain rfl := Option.some.inj e
          exact Go.iret rfl (by decide) (by decide) (by decide +kernel)
      · replace e := ite_f c9 e
        refine Go.run (pc' := 32) [.iconst 2] (ls' := [some (.ref a0), some (.int x1), some (.int x2), none, none, none, none, none]) (st' := [.int (2 : Int32)]) (by decide +kernel) rfl rfl ?_
        obtain rfl := Option.some.inj e
        exact Go.iret rfl (by decide) (by decide) (by decide +kernel)
    · replace e := ite_t c6 e
      refine Go.run (pc' := 17) [.iconst 1] (ls' := [some (.ref a0), some (.int x1), some (.int x2), none, none, none, none, none]) (st' := [.int (1 : Int32)]) (by decide +kernel) rfl rfl ?_
      obtain rfl := Option.some.inj e
      exact Go.iret rfl (by decide) (by decide) (by decide +kernel)
def f_M_goSwap (h : HP) (a0 : Nat) (x1 : Int32) (x2 : Int32) : Option (Int32 × HP) :=
  (f_M_whyNoSwap h a0 x1 x2).bind fun v1 =>
  if v1.1 = 0 then
    (f_M_exchange v1.2 a0 x1 x2).bind fun v8 =>
    if ib (187 : Int32) 196 = true then
    if ib (187 : Int32) 196 = true then
    (some (hset v8 a0 (187 : Int32).toNatClampNeg ((v8 a0 (187 : Int32).toNatClampNeg) + (1 : Int32)))).bind fun h12 =>
    some (v1.1, h12)
    else none
    else none
  else
    if ib (188 : Int32) 196 = true then
    if ib (188 : Int32) 196 = true then
    (some (hset v1.2 a0 (188 : Int32).toNatClampNeg ((v1.2 a0 (188 : Int32).toNatClampNeg) + (1 : Int32)))).bind fun h6 =>
    some (v1.1, h6)
    else none
    else none
set_option maxHeartbeats 1000000 in
theorem x_M_goSwap {l : Launch} {D : va_G} {ad : Nat → Nat} {aC : Nat → ClassId} (hf : l.flags = flags0) (hI : Inj ad) {h : HP} {a0 : Nat} {x1 : Int32} {x2 : Int32} {r : Int32 × HP} (k0 : knd a0 = 10) (q0 : alen a0 = 196) (e : f_M_goSwap h a0 x1 x2 = some r) : CT l D ad aC m_M_goSwap [.ref a0, .int x1, .int x2] h (.inl (some (.int r.1))) r.2 := by
  refine CT.ofGo (by decide +kernel) rfl (Nat.le_of_ble_eq_true rfl) ?_
  unfold f_M_goSwap at e
  show Go l D ad aC (rmk m_M_goSwap) _ m_M_goSwap 0 [some (.ref a0), some (.int x1), some (.int x2), none] [] h 0 0
  refine Go.run (pc' := 3) [.aload_n 0, .iload_n 1, .iload_n 2] (ls' := [some (.ref a0), some (.int x1), some (.int x2), none]) (st' := [.int x2, .int x1, .ref a0]) (by decide +kernel) rfl rfl ?_
  obtain ⟨v1, e2, e⟩ := bd_inv e
  refine Go.callS (M2 := m_M_whyNoSwap) (as := [.ref a0, .int x1, .int x2]) (rest := []) (v := some (.int v1.1)) (h1 := v1.2) (x_M_whyNoSwap hf hI k0 q0 e2) ws_M_127 (by decide +kernel) rfl rfl ⟨⟨Nat.le_of_ble_eq_true rfl, Nat.le_of_ble_eq_true rfl⟩, ⟨Nat.le_of_ble_eq_true rfl, Nat.le_of_ble_eq_true rfl⟩⟩ (Nat.le_of_ble_eq_true rfl) ?_
  show Go l D ad aC (rmk m_M_goSwap) _ m_M_goSwap 6 [some (.ref a0), some (.int x1), some (.int x2), none] [.int v1.1] v1.2 0 0
  refine Go.run (pc' := 8) [.istore_n 3, .iload_n 3] (ls' := [some (.ref a0), some (.int x1), some (.int x2), some (.int v1.1)]) (st' := [.int v1.1]) (by decide +kernel) rfl rfl ?_
  refine Go.if_ne (off := 21) (tgt := 29) (by decide +kernel) (by decide) (fun c3 => ?_) (fun c3 => ?_)
  · replace e := ite_f c3 e
    refine Go.run (pc' := 34) [.aload_n 0, .sipush (188), .dup2] (ls' := [some (.ref a0), some (.int x1), some (.int x2), some (.int v1.1)]) (st' := [.int (188 : Int32), .ref a0, .int (188 : Int32), .ref a0]) (by decide +kernel) rfl rfl ?_
    obtain ⟨g4, e⟩ := gd_inv e
    refine Go.iald k0 q0 g4 (by decide +kernel) ?_
    refine Go.run (pc' := 37) [.iconst 1, .iadd] (ls' := [some (.ref a0), some (.int x1), some (.int x2), some (.int v1.1)]) (st' := [.int ((v1.2 a0 (188 : Int32).toNatClampNeg) + (1 : Int32)), .int (188 : Int32), .ref a0]) (by decide +kernel) rfl rfl ?_
    obtain ⟨g5, e⟩ := gd_inv e
    refine Go.iast hI k0 q0 g5 (by decide +kernel) ?_
    obtain ⟨h6, q7, e⟩ := bd_inv e
    refine Go.eqH (Option.some.inj q7) ?_
    refine Go.run (pc' := 39) [.iload_n 3] (ls' := [some (.ref a0), some (.int x1), some (.int x2), some (.int v1.1)]) (st' := [.int v1.1]) (by decide +kernel) rfl rfl ?_
    obtain rfl := Option.some.inj e
    exact Go.iret rfl (by decide) (by decide) (by decide +kernel)
  · replace e := ite_t c3 e
    refine Go.run (pc' := 14) [.aload_n 0, .iload_n 1, .iload_n 2] (ls' := [some (.ref a0), some (.int x1), some (.int x2), some (.int v1.1)]) (st' := [.int x2, .int x1, .ref a0]) (by decide +kernel) rfl rfl ?_
    obtain ⟨v8, e9, e⟩ := bd_inv e
    refine Go.callS (M2 := m_M_exchange) (as := [.ref a0, .int x1, .int x2]) (rest := []) (v := none) (h1 := v8) (x_M_exchange hf hI k0 q0 e9) ws_M_130 (by decide +kernel) rfl rfl ⟨⟨Nat.le_of_ble_eq_true rfl, Nat.le_of_ble_eq_true rfl⟩, ⟨Nat.le_of_ble_eq_true rfl, Nat.le_of_ble_eq_true rfl⟩⟩ (Nat.le_of_ble_eq_true rfl) ?_
    show Go l D ad aC (rmk m_M_goSwap) _ m_M_goSwap 17 [some (.ref a0), some (.int x1), some (.int x2), some (.int v1.1)] [] v8 0 0
    refine Go.run (pc' := 22) [.aload_n 0, .sipush (187), .dup2] (ls' := [some (.ref a0), some (.int x1), some (.int x2), some (.int v1.1)]) (st' := [.int (187 : Int32), .ref a0, .int (187 : Int32), .ref a0]) (by decide +kernel) rfl rfl ?_
    obtain ⟨g10, e⟩ := gd_inv e
    refine Go.iald k0 q0 g10 (by decide +kernel) ?_
    refine Go.run (pc' := 25) [.iconst 1, .iadd] (ls' := [some (.ref a0), some (.int x1), some (.int x2), some (.int v1.1)]) (st' := [.int ((v8 a0 (187 : Int32).toNatClampNeg) + (1 : Int32)), .int (187 : Int32), .ref a0]) (by decide +kernel) rfl rfl ?_
    obtain ⟨g11, e⟩ := gd_inv e
    refine Go.iast hI k0 q0 g11 (by decide +kernel) ?_
    obtain ⟨h12, q13, e⟩ := bd_inv e
    refine Go.eqH (Option.some.inj q13) ?_
    refine Go.goto (off := 12) (tgt := 38) (by decide +kernel) (by decide) ?_
    refine Go.run (pc' := 39) [.iload_n 3] (ls' := [some (.ref a0), some (.int x1), some (.int x2), some (.int v1.1)]) (st' := [.int v1.1]) (by decide +kernel) rfl rfl ?_
    obtain rfl := Option.some.inj e
    exact Go.iret rfl (by decide) (by decide) (by decide +kernel)
def f_M_goDays_19 (k10_ : Nat → Nat → Int32 → Int32 → Int32 → HP → Option (Int32 × HP)) : Nat → Nat → Nat → Int32 → Int32 → Int32 → Int32 → HP → Option (Int32 × HP)
  | 0, _, _, _, _, _, _, _ => none
  | n + 1, a0, a1, x2, x3, x4, x5, h =>
    if ib (185 : Int32) 196 = true then
    if (h a1 (185 : Int32).toNatClampNeg) ≤ x5 then
      if ib (186 : Int32) 196 = true then
      if ib (186 : Int32) 196 = true then
      (some (hset h a1 (186 : Int32).toNatClampNeg ((h a1 (186 : Int32).toNatClampNeg) + (1 : Int32)))).bind fun h5 =>
      if ib (187 : Int32) 196 = true then
      (some (hset h5 a1 (187 : Int32).toNatClampNeg (0 : Int32))).bind fun h8 =>
      k10_ a0 a1 x2 x3 (x4 + (1 : Int32)) h8
      else none
      else none
      else none
    else
      (f_M_rent h a0 a1 x5).bind fun v10 =>
      (f_M_spot h x5).bind fun v12 =>
      if ib (v12 + (5 : Int32)) 196 = true then
      if ib (v12 + (5 : Int32)) 196 = true then
      (some (hset h a1 (v12 + (5 : Int32)).toNatClampNeg ((h a1 (v12 + (5 : Int32)).toNatClampNeg) + v10))).bind fun h16 =>
      f_M_goDays_19 k10_ n a0 a1 x2 (x3 + v10) x4 (x5 + (1 : Int32)) h16
      else none
      else none
    else none
set_option maxHeartbeats 1000000 in
theorem x_M_goDays_19 {l : Launch} {D : va_G} {ad : Nat → Nat} {aC : Nat → ClassId} (hf : l.flags = flags0) (hI : Inj ad) {k10_ : Nat → Nat → Int32 → Int32 → Int32 → HP → Option (Int32 × HP)} (K10_ : ∀ {a0 : Nat} {a1 : Nat} {x2 : Int32} {x3 : Int32} {x4 : Int32} {h : HP} {r : Int32 × HP}, knd a0 = 8 → knd a1 = 10 → alen a1 = 196 → k10_ a0 a1 x2 x3 x4 h = some r → Go l D ad aC (rmk m_M_goDays) (QM D ad aC m_M_goDays (.inl (some (.int r.1))) r.2) m_M_goDays 10 [some (.ref a0), some (.ref a1), some (.int x2), some (.int x3), some (.int x4), none, none] [] h 0 0) : ∀ (n : Nat) {a0 : Nat} {a1 : Nat} {x2 : Int32} {x3 : Int32} {x4 : Int32} {x5 : Int32} {h : HP} {r : Int32 × HP}, knd a0 = 8 → knd a1 = 10 → alen a1 = 196 → f_M_goDays_19 k10_ n a0 a1 x2 x3 x4 x5 h = some r → Go l D ad aC (rmk m_M_goDays) (QM D ad aC m_M_goDays (.inl (some (.int r.1))) r.2) m_M_goDays 19 [some (.ref a0), some (.ref a1), some (.int x2), some (.int x3), some (.int x4), some (.int x5), none] [] h 0 0 := by
  intro n
  induction n with
  | zero => intro a0 a1 x2 x3 x4 x5 h r k0 k1 q1 e; exact no_none e
  | succ n ih =>
    intro a0 a1 x2 x3 x4 x5 h r k0 k1 q1 e
    rw [f_M_goDays_19] at e
    refine Go.run (pc' := 25) [.iload 5, .aload_n 1, .sipush (185)] (ls' := [some (.ref a0), some (.ref a1), some (.int x2), some (.int x3), some (.int x4), some (.int x5), none]) (st' := [.int (185 : Int32), .ref a1, .int x5]) (by decide +kernel) rfl rfl ?_
    obtain ⟨g1, e⟩ := gd_inv e
    refine Go.iald k1 q1 g1 (by decide +kernel) ?_
    refine Go.ic_ge (off := 37) (tgt := 63) (by decide +kernel) (by decide) (fun c2 => ?_) (fun c2 => ?_)
    · replace e := ite_t c2 e
      refine Go.run (pc' := 68) [.aload_n 1, .sipush (186), .dup2] (ls' := [some (.ref a0), some (.ref a1), some (.int x2), some (.int x3), some (.int x4), some (.int x5), none]) (st' := [.int (186 : Int32), .ref a1, .int (186 : Int32), .ref a1]) (by decide +kernel) rfl rfl ?_
      obtain ⟨g3, e⟩ := gd_inv e
      refine Go.iald k1 q1 g3 (by decide +kernel) ?_
      refine Go.run (pc' := 71) [.iconst 1, .iadd] (ls' := [some (.ref a0), some (.ref a1), some (.int x2), some (.int x3), some (.int x4), some (.int x5), none]) (st' := [.int ((h a1 (186 : Int32).toNatClampNeg) + (1 : Int32)), .int (186 : Int32), .ref a1]) (by decide +kernel) rfl rfl ?_
      obtain ⟨g4, e⟩ := gd_inv e
      refine Go.iast hI k1 q1 g4 (by decide +kernel) ?_
      obtain ⟨h5, q6, e⟩ := bd_inv e
      refine Go.eqH (Option.some.inj q6) ?_
      refine Go.run (pc' := 77) [.aload_n 1, .sipush (187), .iconst 0] (ls' := [some (.ref a0), some (.ref a1), some (.int x2), some (.int x3), some (.int x4), some (.int x5), none]) (st' := [.int (0 : Int32), .int (187 : Int32), .ref a1]) (by decide +kernel) rfl rfl ?_
      obtain ⟨g7, e⟩ := gd_inv e
      refine Go.iast hI k1 q1 g7 (by decide +kernel) ?_
      obtain ⟨h8, q9, e⟩ := bd_inv e
      refine Go.eqH (Option.some.inj q9) ?_
      refine Go.run (pc' := 81) [.iinc 4 (1)] (ls' := [some (.ref a0), some (.ref a1), some (.int x2), some (.int x3), some (.int (x4 + (1 : Int32))), some (.int x5), none]) (st' := []) (by decide +kernel) rfl rfl ?_
      refine Go.goto (off := -71) (tgt := 10) (by decide +kernel) (by decide) ?_
      refine Go.wk' (wks (wks (wks (wks (wks (wkn (wks wk0))))))) ?_
      exact K10_ k0 k1 q1 e
    · replace e := ite_f c2 e
      refine Go.run (pc' := 33) [.aload_n 0, .aload_n 1, .iload 5] (ls' := [some (.ref a0), some (.ref a1), some (.int x2), some (.int x3), some (.int x4), some (.int x5), none]) (st' := [.int x5, .ref a1, .ref a0]) (by decide +kernel) rfl rfl ?_
      obtain ⟨v10, e11, e⟩ := bd_inv e
      refine Go.callV (M2 := m_M_rent) (a := a0) (as := [.ref a1, .int x5]) (rest := []) (v := some (.int v10)) (h1 := h) (x_M_rent hf hI k0 k1 q1 e11) wv_M_112 k0 kc_8 (by decide +kernel) rfl rfl ⟨⟨Nat.le_of_ble_eq_true rfl, Nat.le_of_ble_eq_true rfl⟩, ⟨Nat.le_of_ble_eq_true rfl, Nat.le_of_ble_eq_true rfl⟩⟩ (Nat.le_of_ble_eq_true rfl) ?_
      show Go l D ad aC (rmk m_M_goDays) _ m_M_goDays 36 [some (.ref a0), some (.ref a1), some (.int x2), some (.int x3), some (.int x4), some (.int x5), none] [.int v10] h 0 0
      refine Go.run (pc' := 41) [.istore 6, .aload_n 1, .iload 5] (ls' := [some (.ref a0), some (.ref a1), some (.int x2), some (.int x3), some (.int x4), some (.int x5), some (.int v10)]) (st' := [.int x5, .ref a1]) (by decide +kernel) rfl rfl ?_
      obtain ⟨v12, e13, e⟩ := bd_inv e
      refine Go.callS (M2 := m_M_spot) (as := [.int x5]) (rest := [.ref a1]) (v := some (.int v12)) (h1 := h) (x_M_spot hf hI  e13) ws_M_71 (by decide +kernel) rfl rfl ⟨⟨Nat.le_of_ble_eq_true rfl, Nat.le_of_ble_eq_true rfl⟩, ⟨Nat.le_of_ble_eq_true rfl, Nat.le_of_ble_eq_true rfl⟩⟩ (Nat.le_of_ble_eq_true rfl) ?_
      show Go l D ad aC (rmk m_M_goDays) _ m_M_goDays 44 [some (.ref a0), some (.ref a1), some (.int x2), some (.int x3), some (.int x4), some (.int x5), some (.int v10)] [.int v12, .ref a1] h 0 0
      refine Go.run (pc' := 47) [.iconst 5, .iadd, .dup2] (ls' := [some (.ref a0), some (.ref a1), some (.int x2), some (.int x3), some (.int x4), some (.int x5), some (.int v10)]) (st' := [.int (v12 + (5 : Int32)), .ref a1, .int (v12 + (5 : Int32)), .ref a1]) (by decide +kernel) rfl rfl ?_
      obtain ⟨g14, e⟩ := gd_inv e
      refine Go.iald k1 q1 g14 (by decide +kernel) ?_
      refine Go.run (pc' := 51) [.iload 6, .iadd] (ls' := [some (.ref a0), some (.ref a1), some (.int x2), some (.int x3), some (.int x4), some (.int x5), some (.int v10)]) (st' := [.int ((h a1 (v12 + (5 : Int32)).toNatClampNeg) + v10), .int (v12 + (5 : Int32)), .ref a1]) (by decide +kernel) rfl rfl ?_
      obtain ⟨g15, e⟩ := gd_inv e
      refine Go.iast hI k1 q1 g15 (by decide +kernel) ?_
      obtain ⟨h16, q17, e⟩ := bd_inv e
      refine Go.eqH (Option.some.inj q17) ?_
      refine Go.run (pc' := 60) [.iload_n 3, .iload 6, .iadd, .istore_n 3, .iinc 5 (1)] (ls' := [some (.ref a0), some (.ref a1), some (.int x2), some (.int (x3 + v10)), some (.int x4), some (.int (x5 + (1 : Int32))), some (.int v10)]) (st' := []) (by decide +kernel) rfl rfl ?_
      refine Go.goto (off := -41) (tgt := 19) (by decide +kernel) (by decide) ?_
      refine Go.wk' (wks (wks (wks (wks (wks (wks (wkn wk0))))))) ?_
      exact ih k0 k1 q1 e
def f_M_goDays_10  : Nat → Nat → Nat → Int32 → Int32 → Int32 → HP → Option (Int32 × HP)
  | 0, _, _, _, _, _, _ => none
  | n + 1, a0, a1, x2, x3, x4, h =>
    if x2 ≤ x4 then
      if ib (189 : Int32) 196 = true then
      if ib (189 : Int32) 196 = true then
      (some (hset h a1 (189 : Int32).toNatClampNeg ((h a1 (189 : Int32).toNatClampNeg) + x3))).bind fun h4 =>
      some (x3, h4)
      else none
      else none
    else
      f_M_goDays_19 (f_M_goDays_10 n) 4096 a0 a1 x2 x3 x4 (0 : Int32) h
set_option maxHeartbeats 1000000 in
theorem x_M_goDays_10 {l : Launch} {D : va_G} {ad : Nat → Nat} {aC : Nat → ClassId} (hf : l.flags = flags0) (hI : Inj ad) : ∀ (n : Nat) {a0 : Nat} {a1 : Nat} {x2 : Int32} {x3 : Int32} {x4 : Int32} {h : HP} {r : Int32 × HP}, knd a0 = 8 → knd a1 = 10 → alen a1 = 196 → f_M_goDays_10 n a0 a1 x2 x3 x4 h = some r → Go l D ad aC (rmk m_M_goDays) (QM D ad aC m_M_goDays (.inl (some (.int r.1))) r.2) m_M_goDays 10 [some (.ref a0), some (.ref a1), some (.int x2), some (.int x3), some (.int x4), none, none] [] h 0 0 := by
  intro n
  induction n with
  | zero => intro a0 a1 x2 x3 x4 h r k0 k1 q1 e; exact no_none e
  | succ n ih =>
    intro a0 a1 x2 x3 x4 h r k0 k1 q1 e
    rw [f_M_goDays_10] at e
    refine Go.run (pc' := 13) [.iload 4, .iload_n 2] (ls' := [some (.ref a0), some (.ref a1), some (.int x2), some (.int x3), some (.int x4), none, none]) (st' := [.int x2, .int x4]) (by decide +kernel) rfl rfl ?_
    refine Go.ic_ge (off := 71) (tgt := 84) (by decide +kernel) (by decide) (fun c1 => ?_) (fun c1 => ?_)
    · replace e := ite_t c1 e
      refine Go.run (pc' := 89) [.aload_n 1, .sipush (189), .dup2] (ls' := [some (.ref a0), some (.ref a1), some (.int x2), some (.int x3), some (.int x4), none, none]) (st' := [.int (189 : Int32), .ref a1, .int (189 : Int32), .ref a1]) (by decide +kernel) rfl rfl ?_
      obtain ⟨g2, e⟩ := gd_inv e
      refine Go.iald k1 q1 g2 (by decide +kernel) ?_
      refine Go.run (pc' := 92) [.iload_n 3, .iadd] (ls' := [some (.ref a0), some (.ref a1), some (.int x2), some (.int x3), some (.int x4), none, none]) (st' := [.int ((h a1 (189 : Int32).toNatClampNeg) + x3), .int (189 : Int32), .ref a1]) (by decide +kernel) rfl rfl ?_
      obtain ⟨g3, e⟩ := gd_inv e
      refine Go.iast hI k1 q1 g3 (by decide +kernel) ?_
      obtain ⟨h4, q5, e⟩ := bd_inv e
      refine Go.eqH (Option.some.inj q5) ?_
      refine Go.run (pc' := 94) [.iload_n 3] (ls' := [some (.ref a0), some (.ref a1), some (.int x2), some (.int x3), some (.int x4), none, none]) (st' := [.int x3]) (by decide +kernel) rfl rfl ?_
      obtain rfl := Option.some.inj e
      exact Go.iret rfl (by decide) (by decide) (by decide +kernel)
    · replace e := ite_f c1 e
      refine Go.run (pc' := 19) [.iconst 0, .istore 5] (ls' := [some (.ref a0), some (.ref a1), some (.int x2), some (.int x3), some (.int x4), some (.int (0 : Int32)), none]) (st' := []) (by decide +kernel) rfl rfl ?_
      exact x_M_goDays_19 hf hI (fun kk0 kk1 qq1 e => ih kk0 kk1 qq1 e) 4096 k0 k1 q1 e
def f_M_goDays (h : HP) (a0 : Nat) (a1 : Nat) (x2 : Int32) : Option (Int32 × HP) :=
  (f_M_share h a0 a1).bind fun v1 =>
  f_M_goDays_10 4096 a0 a1 x2 (0 : Int32) (0 : Int32) v1
set_option maxHeartbeats 1000000 in
theorem x_M_goDays {l : Launch} {D : va_G} {ad : Nat → Nat} {aC : Nat → ClassId} (hf : l.flags = flags0) (hI : Inj ad) {h : HP} {a0 : Nat} {a1 : Nat} {x2 : Int32} {r : Int32 × HP} (k0 : knd a0 = 8) (k1 : knd a1 = 10) (q1 : alen a1 = 196) (e : f_M_goDays h a0 a1 x2 = some r) : CT l D ad aC m_M_goDays [.ref a0, .ref a1, .int x2] h (.inl (some (.int r.1))) r.2 := by
  refine CT.ofGo (by decide +kernel) rfl (Nat.le_of_ble_eq_true rfl) ?_
  unfold f_M_goDays at e
  show Go l D ad aC (rmk m_M_goDays) _ m_M_goDays 0 [some (.ref a0), some (.ref a1), some (.int x2), none, none, none, none] [] h 0 0
  refine Go.run (pc' := 4) [.iconst 0, .istore_n 3, .aload_n 0, .aload_n 1] (ls' := [some (.ref a0), some (.ref a1), some (.int x2), some (.int (0 : Int32)), none, none, none]) (st' := [.ref a1, .ref a0]) (by decide +kernel) rfl rfl ?_
  obtain ⟨v1, e2, e⟩ := bd_inv e
  refine Go.callV (M2 := m_M_share) (a := a0) (as := [.ref a1]) (rest := []) (v := none) (h1 := v1) (x_M_share hf hI k0 k1 q1 e2) wv_M_109 k0 kc_8 (by decide +kernel) rfl rfl ⟨⟨Nat.le_of_ble_eq_true rfl, Nat.le_of_ble_eq_true rfl⟩, ⟨Nat.le_of_ble_eq_true rfl, Nat.le_of_ble_eq_true rfl⟩⟩ (Nat.le_of_ble_eq_true rfl) ?_
  show Go l D ad aC (rmk m_M_goDays) _ m_M_goDays 7 [some (.ref a0), some (.ref a1), some (.int x2), some (.int (0 : Int32)), none, none, none] [] v1 0 0
  refine Go.run (pc' := 10) [.iconst 0, .istore 4] (ls' := [some (.ref a0), some (.ref a1), some (.int x2), some (.int (0 : Int32)), some (.int (0 : Int32)), none, none]) (st' := []) (by decide +kernel) rfl rfl ?_
  exact x_M_goDays_10 hf hI 4096 k0 k1 q1 e
def f_M_remember_52  : Nat → Nat → Int32 → HP → Option (HP)
  | 0, _, _, _ => none
  | n + 1, a0, x1, h =>
    if (196 : Int32) ≤ x1 then
      (some (hset h a0 5 ((h a0 5) + (1 : Int32)))).bind fun h2 =>
      some h2
    else
      if ib x1 196 = true then
      if ib (((196 : Int32) * (h a0 5)) + x1) 2744 = true then
      (some (hset h (fld a0 4) (((196 : Int32) * (h a0 5)) + x1).toNatClampNeg (h (fld a0 1) x1.toNatClampNeg))).bind fun h6 =>
      f_M_remember_52 n a0 (x1 + (1 : Int32)) h6
      else none
      else none
set_option maxHeartbeats 1000000 in
theorem x_M_remember_52 {l : Launch} {D : va_G} {ad : Nat → Nat} {aC : Nat → ClassId} (hf : l.flags = flags0) (hI : Inj ad) : ∀ (n : Nat) {a0 : Nat} {x1 : Int32} {h : HP} {r : HP}, knd a0 = 8 → f_M_remember_52 n a0 x1 h = some r → Go l D ad aC (rmk m_M_remember) (QM D ad aC m_M_remember (.inl none) r) m_M_remember 52 [some (.ref a0), some (.int x1)] [] h 0 0 := by
  intro n
  induction n with
  | zero => intro a0 x1 h r k0 e; exact no_none e
  | succ n ih =>
    intro a0 x1 h r k0 e
    rw [f_M_remember_52] at e
    refine Go.run (pc' := 56) [.iload_n 1, .sipush (196)] (ls' := [some (.ref a0), some (.int x1)]) (st' := [.int (196 : Int32), .int x1]) (by decide +kernel) rfl rfl ?_
    refine Go.ic_ge (off := 30) (tgt := 86) (by decide +kernel) (by decide) (fun c1 => ?_) (fun c1 => ?_)
    · replace e := ite_t c1 e
      refine Go.run (pc' := 88) [.aload_n 0, .dup] (ls' := [some (.ref a0), some (.int x1)]) (st' := [.ref a0, .ref a0]) (by decide +kernel) rfl rfl ?_
      refine Go.getI fo_M_134 k0 (by decide +kernel) ?_
      refine Go.run (pc' := 93) [.iconst 1, .iadd] (ls' := [some (.ref a0), some (.int x1)]) (st' := [.int ((h a0 5) + (1 : Int32)), .ref a0]) (by decide +kernel) rfl rfl ?_
      refine Go.put hI po_M_134 k0 (nar_i _) (fit_i _) (by decide +kernel) ?_
      obtain ⟨h2, q3, e⟩ := bd_inv e
      refine Go.eqH (Option.some.inj q3) ?_
      obtain rfl := Option.some.inj e
      exact Go.vret rfl (by decide) (by decide) (by decide +kernel)
    · replace e := ite_f c1 e
      refine Go.run (pc' := 60) [.aload_n 0] (ls' := [some (.ref a0), some (.int x1)]) (st' := [.ref a0]) (by decide +kernel) rfl rfl ?_
      refine Go.getR fo_M_19 k0 (by decide +kernel) ?_
      refine Go.run (pc' := 67) [.sipush (196), .aload_n 0] (ls' := [some (.ref a0), some (.int x1)]) (st' := [.ref a0, .int (196 : Int32), .ref (fld a0 4)]) (by decide +kernel) rfl rfl ?_
      refine Go.getI fo_M_134 k0 (by decide +kernel) ?_
      refine Go.run (pc' := 74) [.imul, .iload_n 1, .iadd, .aload_n 0] (ls' := [some (.ref a0), some (.int x1)]) (st' := [.ref a0, .int (((196 : Int32) * (h a0 5)) + x1), .ref (fld a0 4)]) (by decide +kernel) rfl rfl ?_
      refine Go.getR fo_M_7 k0 (by decide +kernel) ?_
      refine Go.run (pc' := 78) [.iload_n 1] (ls' := [some (.ref a0), some (.int x1)]) (st' := [.int x1, .ref (fld a0 1), .int (((196 : Int32) * (h a0 5)) + x1), .ref (fld a0 4)]) (by decide +kernel) rfl rfl ?_
      obtain ⟨g4, e⟩ := gd_inv e
      refine Go.iald (kf_8_j 1 k0 (by decide) (by decide)) (al_8_j 1 k0 (by decide) (by decide) rfl) g4 (by decide +kernel) ?_
      obtain ⟨g5, e⟩ := gd_inv e
      refine Go.iast hI (kf_8_j 4 k0 (by decide) (by decide)) (al_8_j 4 k0 (by decide) (by decide) rfl) g5 (by decide +kernel) ?_
      obtain ⟨h6, q7, e⟩ := bd_inv e
      refine Go.eqH (Option.some.inj q7) ?_
      refine Go.run (pc' := 83) [.iinc 1 (1)] (ls' := [some (.ref a0), some (.int (x1 + (1 : Int32)))]) (st' := []) (by decide +kernel) rfl rfl ?_
      refine Go.goto (off := -31) (tgt := 52) (by decide +kernel) (by decide) ?_
      exact ih k0 e
def f_M_remember_50  (a0 : Nat) (h : HP) : Option (HP) :=
  f_M_remember_52 4096 a0 (0 : Int32) h
set_option maxHeartbeats 1000000 in
theorem x_M_remember_50 {l : Launch} {D : va_G} {ad : Nat → Nat} {aC : Nat → ClassId} (hf : l.flags = flags0) (hI : Inj ad) {a0 : Nat} {h : HP} {r : HP} (k0 : knd a0 = 8) (e : f_M_remember_50 a0 h = some r) : Go l D ad aC (rmk m_M_remember) (QM D ad aC m_M_remember (.inl none) r) m_M_remember 50 [some (.ref a0), none] [] h 0 0 := by
  unfold f_M_remember_50 at e
  refine Go.run (pc' := 52) [.iconst 0, .istore_n 1] (ls' := [some (.ref a0), some (.int (0 : Int32))]) (st' := []) (by decide +kernel) rfl rfl ?_
  exact x_M_remember_52 hf hI 4096 k0 e
def f_M_remember_11  : Nat → Nat → Int32 → HP → Option (HP)
  | 0, _, _, _ => none
  | n + 1, a0, x1, h =>
    if (2548 : Int32) ≤ x1 then
      (some (hset h a0 5 ((h a0 5) - (1 : Int32)))).bind fun h2 =>
      f_M_remember_50 a0 h2
    else
      if ib ((196 : Int32) + x1) 2744 = true then
      if ib x1 2744 = true then
      (some (hset h (fld a0 4) x1.toNatClampNeg (h (fld a0 4) ((196 : Int32) + x1).toNatClampNeg))).bind fun h6 =>
      f_M_remember_11 n a0 (x1 + (1 : Int32)) h6
      else none
      else none
set_option maxHeartbeats 1000000 in
theorem x_M_remember_11 {l : Launch} {D : va_G} {ad : Nat → Nat} {aC : Nat → ClassId} (hf : l.flags = flags0) (hI : Inj ad) : ∀ (n : Nat) {a0 : Nat} {x1 : Int32} {h : HP} {r : HP}, knd a0 = 8 → f_M_remember_11 n a0 x1 h = some r → Go l D ad aC (rmk m_M_remember) (QM D ad aC m_M_remember (.inl none) r) m_M_remember 11 [some (.ref a0), some (.int x1)] [] h 0 0 := by
  intro n
  induction n with
  | zero => intro a0 x1 h r k0 e; exact no_none e
  | succ n ih =>
    intro a0 x1 h r k0 e
    rw [f_M_remember_11] at e
    refine Go.run (pc' := 15) [.iload_n 1, .sipush (2548)] (ls' := [some (.ref a0), some (.int x1)]) (st' := [.int (2548 : Int32), .int x1]) (by decide +kernel) rfl rfl ?_
    refine Go.ic_ge (off := 25) (tgt := 40) (by decide +kernel) (by decide) (fun c1 => ?_) (fun c1 => ?_)
    · replace e := ite_t c1 e
      refine Go.run (pc' := 42) [.aload_n 0, .dup] (ls' := [some (.ref a0), some (.int x1)]) (st' := [.ref a0, .ref a0]) (by decide +kernel) rfl rfl ?_
      refine Go.getI fo_M_134 k0 (by decide +kernel) ?_
      refine Go.run (pc' := 47) [.iconst 1, .isub] (ls' := [some (.ref a0), some (.int x1)]) (st' := [.int ((h a0 5) - (1 : Int32)), .ref a0]) (by decide +kernel) rfl rfl ?_
      refine Go.put hI po_M_134 k0 (nar_i _) (fit_i _) (by decide +kernel) ?_
      obtain ⟨h2, q3, e⟩ := bd_inv e
      refine Go.eqH (Option.some.inj q3) ?_
      refine Go.wk' (wks (wkn wk0)) ?_
      exact x_M_remember_50 hf hI k0 e
    · replace e := ite_f c1 e
      refine Go.run (pc' := 19) [.aload_n 0] (ls' := [some (.ref a0), some (.int x1)]) (st' := [.ref a0]) (by decide +kernel) rfl rfl ?_
      refine Go.getR fo_M_19 k0 (by decide +kernel) ?_
      refine Go.run (pc' := 24) [.iload_n 1, .aload_n 0] (ls' := [some (.ref a0), some (.int x1)]) (st' := [.ref a0, .int x1, .ref (fld a0 4)]) (by decide +kernel) rfl rfl ?_
      refine Go.getR fo_M_19 k0 (by decide +kernel) ?_
      refine Go.run (pc' := 32) [.sipush (196), .iload_n 1, .iadd] (ls' := [some (.ref a0), some (.int x1)]) (st' := [.int ((196 : Int32) + x1), .ref (fld a0 4), .int x1, .ref (fld a0 4)]) (by decide +kernel) rfl rfl ?_
      obtain ⟨g4, e⟩ := gd_inv e
      refine Go.iald (kf_8_j 4 k0 (by decide) (by decide)) (al_8_j 4 k0 (by decide) (by decide) rfl) g4 (by decide +kernel) ?_
      obtain ⟨g5, e⟩ := gd_inv e
      refine Go.iast hI (kf_8_j 4 k0 (by decide) (by decide)) (al_8_j 4 k0 (by decide) (by decide) rfl) g5 (by decide +kernel) ?_
      obtain ⟨h6, q7, e⟩ := bd_inv e
      refine Go.eqH (Option.some.inj q7) ?_
      refine Go.run (pc' := 37) [.iinc 1 (1)] (ls' := [some (.ref a0), some (.int (x1 + (1 : Int32)))]) (st' := []) (by decide +kernel) rfl rfl ?_
      refine Go.goto (off := -26) (tgt := 11) (by decide +kernel) (by decide) ?_
      exact ih k0 e
def f_M_remember (h : HP) (a0 : Nat) : Option (HP) :=
  if (h a0 5) = (14 : Int32) then
    f_M_remember_11 4096 a0 (0 : Int32) h
  else
    f_M_remember_50 a0 h
set_option maxHeartbeats 1000000 in
theorem x_M_remember {l : Launch} {D : va_G} {ad : Nat → Nat} {aC : Nat → ClassId} (hf : l.flags = flags0) (hI : Inj ad) {h : HP} {a0 : Nat} {r : HP} (k0 : knd a0 = 8) (e : f_M_remember h a0 = some r) : CT l D ad aC m_M_remember [.ref a0] h (.inl none) r := by
  refine CT.ofGo (by decide +kernel) rfl (Nat.le_of_ble_eq_true rfl) ?_
  unfold f_M_remember at e
  show Go l D ad aC (rmk m_M_remember) _ m_M_remember 0 [some (.ref a0), none] [] h 0 0
  refine Go.run (pc' := 1) [.aload_n 0] (ls' := [some (.ref a0), none]) (st' := [.ref a0]) (by decide +kernel) rfl rfl ?_
  refine Go.getI fo_M_134 k0 (by decide +kernel) ?_
  refine Go.run (pc' := 6) [.bipush (14)] (ls' := [some (.ref a0), none]) (st' := [.int (14 : Int32), .int (h a0 5)]) (by decide +kernel) rfl rfl ?_
  refine Go.ic_ne (off := 44) (tgt := 50) (by decide +kernel) (by decide) (fun c1 => ?_) (fun c1 => ?_)
  · replace e := ite_f c1 e
    exact x_M_remember_50 hf hI k0 e
  · replace e := ite_t c1 e
    refine Go.run (pc' := 11) [.iconst 0, .istore_n 1] (ls' := [some (.ref a0), some (.int (0 : Int32))]) (st' := []) (by decide +kernel) rfl rfl ?_
    exact x_M_remember_11 hf hI 4096 k0 e
def f_M_append_31  (a0 : Nat) (x1 : Int32) (b0 : Nat) (s1 : Int32) (h : HP) : Option (Int32 × HP) :=
  (f_M_refused h b0 s1).bind fun v1 =>
  if v1.1 = 0 then
    if ib (v1.2 a0 12) 120 = true then
    (some (hset v1.2 (fld a0 11) (v1.2 a0 12).toNatClampNeg x1)).bind fun h5 =>
    (some (hset h5 a0 12 ((h5 a0 12) + (1 : Int32)))).bind fun h7 =>
    some (h7 a0 12, h7)
    else none
  else
    some ((0 : Int32), v1.2)
set_option maxHeartbeats 1000000 in
theorem x_M_append_31 {l : Launch} {D : va_G} {ad : Nat → Nat} {aC : Nat → ClassId} (hf : l.flags = flags0) (hI : Inj ad) {a0 : Nat} {x1 : Int32} {b0 : Nat} {s1 : Int32} {h : HP} {r : Int32 × HP} (k0 : knd a0 = 8) (kb0 : knd b0 = 8) (e : f_M_append_31 a0 x1 b0 s1 h = some r) : Go l D ad aC (rmk m_M_append) (QM D ad aC m_M_append (.inl (some (.int r.1))) r.2) m_M_append 31 [some (.ref a0), some (.int x1)] [.int s1, .ref b0] h 0 0 := by
  unfold f_M_append_31 at e
  obtain ⟨v1, e2, e⟩ := bd_inv e
  refine Go.callV (M2 := m_M_refused) (a := b0) (as := [.int s1]) (rest := []) (v := some (.int v1.1)) (h1 := v1.2) (x_M_refused hf hI kb0 e2) wv_M_142 kb0 kc_8 (by decide +kernel) rfl rfl ⟨⟨Nat.le_of_ble_eq_true rfl, Nat.le_of_ble_eq_true rfl⟩, ⟨Nat.le_of_ble_eq_true rfl, Nat.le_of_ble_eq_true rfl⟩⟩ (Nat.le_of_ble_eq_true rfl) ?_
  show Go l D ad aC (rmk m_M_append) _ m_M_append 34 [some (.ref a0), some (.int x1)] [.int v1.1] v1.2 0 0
  refine Go.if_eq (off := 5) (tgt := 39) (by decide +kernel) (by decide) (fun c3 => ?_) (fun c3 => ?_)
  · replace e := ite_t c3 e
    refine Go.run (pc' := 40) [.aload_n 0] (ls' := [some (.ref a0), some (.int x1)]) (st' := [.ref a0]) (by decide +kernel) rfl rfl ?_
    refine Go.getR fo_M_38 k0 (by decide +kernel) ?_
    refine Go.run (pc' := 44) [.aload_n 0] (ls' := [some (.ref a0), some (.int x1)]) (st' := [.ref a0, .ref (fld a0 11)]) (by decide +kernel) rfl rfl ?_
    refine Go.getI fo_M_139 k0 (by decide +kernel) ?_
    refine Go.run (pc' := 48) [.iload_n 1] (ls' := [some (.ref a0), some (.int x1)]) (st' := [.int x1, .int (v1.2 a0 12), .ref (fld a0 11)]) (by decide +kernel) rfl rfl ?_
    obtain ⟨g4, e⟩ := gd_inv e
    refine Go.iast hI (kf_8_j 11 k0 (by decide) (by decide)) (al_8_j 11 k0 (by decide) (by decide) rfl) g4 (by decide +kernel) ?_
    obtain ⟨h5, q6, e⟩ := bd_inv e
    refine Go.eqH (Option.some.inj q6) ?_
    refine Go.run (pc' := 51) [.aload_n 0, .dup] (ls' := [some (.ref a0), some (.int x1)]) (st' := [.ref a0, .ref a0]) (by decide +kernel) rfl rfl ?_
    refine Go.getI fo_M_139 k0 (by decide +kernel) ?_
    refine Go.run (pc' := 56) [.iconst 1, .iadd] (ls' := [some (.ref a0), some (.int x1)]) (st' := [.int ((h5 a0 12) + (1 : Int32)), .ref a0]) (by decide +kernel) rfl rfl ?_
    refine Go.put hI po_M_139 k0 (nar_i _) (fit_i _) (by decide +kernel) ?_
    obtain ⟨h7, q8, e⟩ := bd_inv e
    refine Go.eqH (Option.some.inj q8) ?_
    refine Go.run (pc' := 60) [.aload_n 0] (ls' := [some (.ref a0), some (.int x1)]) (st' := [.ref a0]) (by decide +kernel) rfl rfl ?_
    refine Go.getI fo_M_139 k0 (by decide +kernel) ?_
    obtain rfl := Option.some.inj e
    exact Go.iret rfl (by decide) (by decide) (by decide +kernel)
  · replace e := ite_f c3 e
    refine Go.run (pc' := 38) [.iconst 0] (ls' := [some (.ref a0), some (.int x1)]) (st' := [.int (0 : Int32)]) (by decide +kernel) rfl rfl ?_
    obtain rfl := Option.some.inj e
    exact Go.iret rfl (by decide) (by decide) (by decide +kernel)
def f_M_append (h : HP) (a0 : Nat) (x1 : Int32) : Option (Int32 × HP) :=
  (f_M_in h x1.toInt64 (0 : Int64) (255 : Int64)).bind fun v1 =>
  if v1 = 0 then
    f_M_append_31 a0 x1 a0 (1 : Int32) h
  else
    if (h a0 12) = (120 : Int32) then
      f_M_append_31 a0 x1 a0 (2 : Int32) h
    else
      f_M_append_31 a0 x1 a0 (0 : Int32) h
set_option maxHeartbeats 1000000 in
theorem x_M_append {l : Launch} {D : va_G} {ad : Nat → Nat} {aC : Nat → ClassId} (hf : l.flags = flags0) (hI : Inj ad) {h : HP} {a0 : Nat} {x1 : Int32} {r : Int32 × HP} (k0 : knd a0 = 8) (e : f_M_append h a0 x1 = some r) : CT l D ad aC m_M_append [.ref a0, .int x1] h (.inl (some (.int r.1))) r.2 := by
  refine CT.ofGo (by decide +kernel) rfl (Nat.le_of_ble_eq_true rfl) ?_
  unfold f_M_append at e
  show Go l D ad aC (rmk m_M_append) _ m_M_append 0 [some (.ref a0), some (.int x1)] [] h 0 0
  refine Go.run (pc' := 4) [.aload_n 0, .iload_n 1, .i2l, .lconst 0] (ls' := [some (.ref a0), some (.int x1)]) (st' := [.long (0 : Int64), .long x1.toInt64, .ref a0]) (by decide +kernel) rfl rfl ?_
  refine Go.ldc2 lo_M_137 (by decide +kernel) ?_
  obtain ⟨v1, e2, e⟩ := bd_inv e
  refine Go.callS (M2 := m_M_in) (as := [.long x1.toInt64, .long (0 : Int64), .long (255 : Int64)]) (rest := [.ref a0]) (v := some (.int v1)) (h1 := h) (x_M_in hf hI  e2) ws_M_51 (by decide +kernel) rfl rfl ⟨⟨Nat.le_of_ble_eq_true rfl, Nat.le_of_ble_eq_true rfl⟩, ⟨Nat.le_of_ble_eq_true rfl, Nat.le_of_ble_eq_true rfl⟩⟩ (Nat.le_of_ble_eq_true rfl) ?_
  show Go l D ad aC (rmk m_M_append) _ m_M_append 10 [some (.ref a0), some (.int x1)] [.int v1, .ref a0] h 0 0
  refine Go.if_ne (off := 7) (tgt := 17) (by decide +kernel) (by decide) (fun c3 => ?_) (fun c3 => ?_)
  · replace e := ite_f c3 e
    refine Go.run (pc' := 18) [.aload_n 0] (ls' := [some (.ref a0), some (.int x1)]) (st' := [.ref a0, .ref a0]) (by decide +kernel) rfl rfl ?_
    refine Go.getI fo_M_139 k0 (by decide +kernel) ?_
    refine Go.run (pc' := 23) [.bipush (120)] (ls' := [some (.ref a0), some (.int x1)]) (st' := [.int (120 : Int32), .int (h a0 12), .ref a0]) (by decide +kernel) rfl rfl ?_
    refine Go.ic_ne (off := 7) (tgt := 30) (by decide +kernel) (by decide) (fun c4 => ?_) (fun c4 => ?_)
    · replace e := ite_f c4 e
      refine Go.run (pc' := 31) [.iconst 0] (ls' := [some (.ref a0), some (.int x1)]) (st' := [.int (0 : Int32), .ref a0]) (by decide +kernel) rfl rfl ?_
      exact x_M_append_31 hf hI k0 k0 e
    · replace e := ite_t c4 e
      refine Go.run (pc' := 27) [.iconst 2] (ls' := [some (.ref a0), some (.int x1)]) (st' := [.int (2 : Int32), .ref a0]) (by decide +kernel) rfl rfl ?_
      refine Go.goto (off := 4) (tgt := 31) (by decide +kernel) (by decide) ?_
      exact x_M_append_31 hf hI k0 k0 e
  · replace e := ite_t c3 e
    refine Go.run (pc' := 14) [.iconst 1] (ls' := [some (.ref a0), some (.int x1)]) (st' := [.int (1 : Int32), .ref a0]) (by decide +kernel) rfl rfl ?_
    refine Go.goto (off := 17) (tgt := 31) (by decide +kernel) (by decide) ?_
    exact x_M_append_31 hf hI k0 k0 e
def f_M_clearText (h : HP) (a0 : Nat) : Option (Int32 × HP) :=
  (some (hset h a0 0 (0 : Int32))).bind fun h1 =>
  (some (hset h1 a0 12 (0 : Int32))).bind fun h3 =>
  some (h1 a0 12, h3)
set_option maxHeartbeats 1000000 in
theorem x_M_clearText {l : Launch} {D : va_G} {ad : Nat → Nat} {aC : Nat → ClassId} (hf : l.flags = flags0) (hI : Inj ad) {h : HP} {a0 : Nat} {r : Int32 × HP} (k0 : knd a0 = 8) (e : f_M_clearText h a0 = some r) : CT l D ad aC m_M_clearText [.ref a0] h (.inl (some (.int r.1))) r.2 := by
  refine CT.ofGo (by decide +kernel) rfl (Nat.le_of_ble_eq_true rfl) ?_
  unfold f_M_clearText at e
  show Go l D ad aC (rmk m_M_clearText) _ m_M_clearText 0 [some (.ref a0), none] [] h 0 0
  refine Go.run (pc' := 2) [.aload_n 0, .iconst 0] (ls' := [some (.ref a0), none]) (st' := [.int (0 : Int32), .ref a0]) (by decide +kernel) rfl rfl ?_
  refine Go.put hI po_M_45 k0 (nar_i _) (fit_i _) (by decide +kernel) ?_
  obtain ⟨h1, q2, e⟩ := bd_inv e
  refine Go.eqH (Option.some.inj q2) ?_
  refine Go.run (pc' := 6) [.aload_n 0] (ls' := [some (.ref a0), none]) (st' := [.ref a0]) (by decide +kernel) rfl rfl ?_
  refine Go.getI fo_M_139 k0 (by decide +kernel) ?_
  refine Go.run (pc' := 12) [.istore_n 1, .aload_n 0, .iconst 0] (ls' := [some (.ref a0), some (.int (h1 a0 12))]) (st' := [.int (0 : Int32), .ref a0]) (by decide +kernel) rfl rfl ?_
  refine Go.put hI po_M_139 k0 (nar_i _) (fit_i _) (by decide +kernel) ?_
  obtain ⟨h3, q4, e⟩ := bd_inv e
  refine Go.eqH (Option.some.inj q4) ?_
  refine Go.run (pc' := 16) [.iload_n 1] (ls' := [some (.ref a0), some (.int (h1 a0 12))]) (st' := [.int (h1 a0 12)]) (by decide +kernel) rfl rfl ?_
  obtain rfl := Option.some.inj e
  exact Go.iret rfl (by decide) (by decide) (by decide +kernel)
def f_M_here (h : HP) (a0 : Nat) : Option (Int32) :=
  if (h a0 12) ≤ (h a0 13) then
    some (-1 : Int32)
  else
    if ib (h a0 13) 120 = true then
    some (h (fld a0 11) (h a0 13).toNatClampNeg)
    else none
set_option maxHeartbeats 1000000 in
theorem x_M_here {l : Launch} {D : va_G} {ad : Nat → Nat} {aC : Nat → ClassId} (hf : l.flags = flags0) (hI : Inj ad) {h : HP} {a0 : Nat} {r : Int32} (k0 : knd a0 = 8) (e : f_M_here h a0 = some r) : CT l D ad aC m_M_here [.ref a0] h (.inl (some (.int r))) h := by
  refine CT.ofGo (by decide +kernel) rfl (Nat.le_of_ble_eq_true rfl) ?_
  unfold f_M_here at e
  show Go l D ad aC (rmk m_M_here) _ m_M_here 0 [some (.ref a0)] [] h 0 0
  refine Go.run (pc' := 1) [.aload_n 0] (ls' := [some (.ref a0)]) (st' := [.ref a0]) (by decide +kernel) rfl rfl ?_
  refine Go.getI fo_M_146 k0 (by decide +kernel) ?_
  refine Go.run (pc' := 5) [.aload_n 0] (ls' := [some (.ref a0)]) (st' := [.ref a0, .int (h a0 13)]) (by decide +kernel) rfl rfl ?_
  refine Go.getI fo_M_139 k0 (by decide +kernel) ?_
  refine Go.ic_ge (off := 15) (tgt := 23) (by decide +kernel) (by decide) (fun c1 => ?_) (fun c1 => ?_)
  · replace e := ite_t c1 e
    refine Go.run (pc' := 24) [.iconst (-1)] (ls' := [some (.ref a0)]) (st' := [.int (-1 : Int32)]) (by decide +kernel) rfl rfl ?_
    obtain rfl := Option.some.inj e
    exact Go.iret rfl (by decide) (by decide) (by decide +kernel)
  · replace e := ite_f c1 e
    refine Go.run (pc' := 12) [.aload_n 0] (ls' := [some (.ref a0)]) (st' := [.ref a0]) (by decide +kernel) rfl rfl ?_
    refine Go.getR fo_M_38 k0 (by decide +kernel) ?_
    refine Go.run (pc' := 16) [.aload_n 0] (ls' := [some (.ref a0)]) (st' := [.ref a0, .ref (fld a0 11)]) (by decide +kernel) rfl rfl ?_
    refine Go.getI fo_M_146 k0 (by decide +kernel) ?_
    obtain ⟨g2, e⟩ := gd_inv e
    refine Go.iald (kf_8_j 11 k0 (by decide) (by decide)) (al_8_j 11 k0 (by decide) (by decide) rfl) g2 (by decide +kernel) ?_
    refine Go.goto (off := 4) (tgt := 24) (by decide +kernel) (by decide) ?_
    obtain rfl := Option.some.inj e
    exact Go.iret rfl (by decide) (by decide) (by decide +kernel)
def f_M_take_37  (b0 : Nat) (s1 : Int32) (s2 : Int32) (h : HP) : Option (HP) :=
  (some (hset h b0 13 (s1 + s2))).bind fun h1 =>
  some h1
set_option maxHeartbeats 1000000 in
theorem x_M_take_37 {l : Launch} {D : va_G} {ad : Nat → Nat} {aC : Nat → ClassId} (hf : l.flags = flags0) (hI : Inj ad) {b0 : Nat} {s1 : Int32} {s2 : Int32} {h : HP} {r : HP} (kb0 : knd b0 = 8) (e : f_M_take_37 b0 s1 s2 h = some r) : Go l D ad aC (rmk m_M_take) (QM D ad aC m_M_take (.inl none) r) m_M_take 37 [none, none] [.int s2, .int s1, .ref b0] h 0 0 := by
  unfold f_M_take_37 at e
  refine Go.run (pc' := 38) [.iadd] (ls' := [none, none]) (st' := [.int (s1 + s2), .ref b0]) (by decide +kernel) rfl rfl ?_
  refine Go.put hI po_M_146 kb0 (nar_i _) (fit_i _) (by decide +kernel) ?_
  obtain ⟨h1, q2, e⟩ := bd_inv e
  refine Go.eqH (Option.some.inj q2) ?_
  obtain rfl := Option.some.inj e
  exact Go.vret rfl (by decide) (by decide) (by decide +kernel)
def f_M_take_17  (a0 : Nat) (b0 : Nat) (s1 : Int32) (h : HP) : Option (HP) :=
  if isB s1 = true then
  (some (hset h b0 14 s1)).bind fun h2 =>
  if (h2 a0 14) = 0 then
    f_M_take_37 a0 (h2 a0 13) (0 : Int32) h2
  else
    f_M_take_37 a0 (h2 a0 13) (1 : Int32) h2
  else none
set_option maxHeartbeats 1000000 in
theorem x_M_take_17 {l : Launch} {D : va_G} {ad : Nat → Nat} {aC : Nat → ClassId} (hf : l.flags = flags0) (hI : Inj ad) {a0 : Nat} {b0 : Nat} {s1 : Int32} {h : HP} {r : HP} (k0 : knd a0 = 8) (kb0 : knd b0 = 8) (e : f_M_take_17 a0 b0 s1 h = some r) : Go l D ad aC (rmk m_M_take) (QM D ad aC m_M_take (.inl none) r) m_M_take 17 [some (.ref a0), none] [.int s1, .ref b0] h 0 0 := by
  unfold f_M_take_17 at e
  obtain ⟨g1, e⟩ := gd_inv e
  refine Go.put hI po_M_149 kb0 (isB_nar g1) (isB_fit g1) (by decide +kernel) ?_
  obtain ⟨h2, q3, e⟩ := bd_inv e
  refine Go.eqH (Option.some.inj q3) ?_
  refine Go.run (pc' := 22) [.aload_n 0, .dup] (ls' := [some (.ref a0), none]) (st' := [.ref a0, .ref a0]) (by decide +kernel) rfl rfl ?_
  refine Go.getI fo_M_146 k0 (by decide +kernel) ?_
  refine Go.run (pc' := 26) [.aload_n 0] (ls' := [some (.ref a0), none]) (st' := [.ref a0, .int (h2 a0 13), .ref a0]) (by decide +kernel) rfl rfl ?_
  refine Go.getI fo_M_149 k0 (by decide +kernel) ?_
  refine Go.if_eq (off := 7) (tgt := 36) (by decide +kernel) (by decide) (fun c4 => ?_) (fun c4 => ?_)
  · replace e := ite_t c4 e
    refine Go.run (pc' := 37) [.iconst 0] (ls' := [some (.ref a0), none]) (st' := [.int (0 : Int32), .int (h2 a0 13), .ref a0]) (by decide +kernel) rfl rfl ?_
    refine Go.wk' (wkn (wks wk0)) ?_
    exact x_M_take_37 hf hI k0 e
  · replace e := ite_f c4 e
    refine Go.run (pc' := 33) [.iconst 1] (ls' := [some (.ref a0), none]) (st' := [.int (1 : Int32), .int (h2 a0 13), .ref a0]) (by decide +kernel) rfl rfl ?_
    refine Go.goto (off := 4) (tgt := 37) (by decide +kernel) (by decide) ?_
    refine Go.wk' (wkn (wks wk0)) ?_
    exact x_M_take_37 hf hI k0 e
def f_M_take_16  (a0 : Nat) (b0 : Nat) (h : HP) : Option (HP) :=
  f_M_take_17 a0 b0 (0 : Int32) h
set_option maxHeartbeats 1000000 in
theorem x_M_take_16 {l : Launch} {D : va_G} {ad : Nat → Nat} {aC : Nat → ClassId} (hf : l.flags = flags0) (hI : Inj ad) {a0 : Nat} {b0 : Nat} {h : HP} {r : HP} (k0 : knd a0 = 8) (kb0 : knd b0 = 8) (e : f_M_take_16 a0 b0 h = some r) : Go l D ad aC (rmk m_M_take) (QM D ad aC m_M_take (.inl none) r) m_M_take 16 [some (.ref a0), none] [.ref b0] h 0 0 := by
  unfold f_M_take_16 at e
  refine Go.run (pc' := 17) [.iconst 0] (ls' := [some (.ref a0), none]) (st' := [.int (0 : Int32), .ref b0]) (by decide +kernel) rfl rfl ?_
  exact x_M_take_17 hf hI k0 kb0 e
def f_M_take (h : HP) (a0 : Nat) (x1 : Int32) : Option (HP) :=
  if (h a0 14) = 0 then
    f_M_take_16 a0 a0 h
  else
    if x1 = 0 then
      f_M_take_16 a0 a0 h
    else
      f_M_take_17 a0 a0 (1 : Int32) h
set_option maxHeartbeats 1000000 in
theorem x_M_take {l : Launch} {D : va_G} {ad : Nat → Nat} {aC : Nat → ClassId} (hf : l.flags = flags0) (hI : Inj ad) {h : HP} {a0 : Nat} {x1 : Int32} {r : HP} (k0 : knd a0 = 8) (e : f_M_take h a0 x1 = some r) : CT l D ad aC m_M_take [.ref a0, .int x1] h (.inl none) r := by
  refine CT.ofGo (by decide +kernel) rfl (Nat.le_of_ble_eq_true rfl) ?_
  unfold f_M_take at e
  show Go l D ad aC (rmk m_M_take) _ m_M_take 0 [some (.ref a0), some (.int x1)] [] h 0 0
  refine Go.run (pc' := 2) [.aload_n 0, .aload_n 0] (ls' := [some (.ref a0), some (.int x1)]) (st' := [.ref a0, .ref a0]) (by decide +kernel) rfl rfl ?_
  refine Go.getI fo_M_149 k0 (by decide +kernel) ?_
  refine Go.if_eq (off := 11) (tgt := 16) (by decide +kernel) (by decide) (fun c1 => ?_) (fun c1 => ?_)
  · replace e := ite_t c1 e
    refine Go.wk' (wks (wkn wk0)) ?_
    exact x_M_take_16 hf hI k0 k0 e
  · replace e := ite_f c1 e
    refine Go.run (pc' := 9) [.iload_n 1] (ls' := [some (.ref a0), some (.int x1)]) (st' := [.int x1, .ref a0]) (by decide +kernel) rfl rfl ?_
    refine Go.if_eq (off := 7) (tgt := 16) (by decide +kernel) (by decide) (fun c2 => ?_) (fun c2 => ?_)
    · replace e := ite_t c2 e
      refine Go.wk' (wks (wkn wk0)) ?_
      exact x_M_take_16 hf hI k0 k0 e
    · replace e := ite_f c2 e
      refine Go.run (pc' := 13) [.iconst 1] (ls' := [some (.ref a0), some (.int x1)]) (st' := [.int (1 : Int32), .ref a0]) (by decide +kernel) rfl rfl ?_
      refine Go.goto (off := 4) (tgt := 17) (by decide +kernel) (by decide) ?_
      refine Go.wk' (wks (wkn wk0)) ?_
      exact x_M_take_17 hf hI k0 k0 e
def f_M_digit (h : HP) (a0 : Nat) (x1 : Int32) (x2 : Int32) : Option (Int32 × HP) :=
  (f_M_here h a0).bind fun v1 =>
  (f_M_in h ((v1 - (48 : Int32)).toInt64) x1.toInt64 x2.toInt64).bind fun v3 =>
  (f_M_take h a0 v3).bind fun v5 =>
  if (v5 a0 14) = 0 then
    some (x1, v5)
  else
    some (v1 - (48 : Int32), v5)
set_option maxHeartbeats 1000000 in
theorem x_M_digit {l : Launch} {D : va_G} {ad : Nat → Nat} {aC : Nat → ClassId} (hf : l.flags = flags0) (hI : Inj ad) {h : HP} {a0 : Nat} {x1 : Int32} {x2 : Int32} {r : Int32 × HP} (k0 : knd a0 = 8) (e : f_M_digit h a0 x1 x2 = some r) : CT l D ad aC m_M_digit [.ref a0, .int x1, .int x2] h (.inl (some (.int r.1))) r.2 := by
  refine CT.ofGo (by decide +kernel) rfl (Nat.le_of_ble_eq_true rfl) ?_
  unfold f_M_digit at e
  show Go l D ad aC (rmk m_M_digit) _ m_M_digit 0 [some (.ref a0), some (.int x1), some (.int x2), none] [] h 0 0
  refine Go.run (pc' := 1) [.aload_n 0] (ls' := [some (.ref a0), some (.int x1), some (.int x2), none]) (st' := [.ref a0]) (by decide +kernel) rfl rfl ?_
  obtain ⟨v1, e2, e⟩ := bd_inv e
  refine Go.callV (M2 := m_M_here) (a := a0) (as := []) (rest := []) (v := some (.int v1)) (h1 := h) (x_M_here hf hI k0 e2) wv_M_153 k0 kc_8 (by decide +kernel) rfl rfl ⟨⟨Nat.le_of_ble_eq_true rfl, Nat.le_of_ble_eq_true rfl⟩, ⟨Nat.le_of_ble_eq_true rfl, Nat.le_of_ble_eq_true rfl⟩⟩ (Nat.le_of_ble_eq_true rfl) ?_
  show Go l D ad aC (rmk m_M_digit) _ m_M_digit 4 [some (.ref a0), some (.int x1), some (.int x2), none] [.int v1] h 0 0
  refine Go.run (pc' := 15) [.bipush (48), .isub, .istore_n 3, .aload_n 0, .iload_n 3, .i2l, .iload_n 1, .i2l, .iload_n 2, .i2l] (ls' := [some (.ref a0), some (.int x1), some (.int x2), some (.int (v1 - (48 : Int32)))]) (st' := [.long x2.toInt64, .long x1.toInt64, .long ((v1 - (48 : Int32)).toInt64), .ref a0]) (by decide +kernel) rfl rfl ?_
  obtain ⟨v3, e4, e⟩ := bd_inv e
  refine Go.callS (M2 := m_M_in) (as := [.long ((v1 - (48 : Int32)).toInt64), .long x1.toInt64, .long x2.toInt64]) (rest := [.ref a0]) (v := some (.int v3)) (h1 := h) (x_M_in hf hI  e4) ws_M_51 (by decide +kernel) rfl rfl ⟨⟨Nat.le_of_ble_eq_true rfl, Nat.le_of_ble_eq_true rfl⟩, ⟨Nat.le_of_ble_eq_true rfl, Nat.le_of_ble_eq_true rfl⟩⟩ (Nat.le_of_ble_eq_true rfl) ?_
  show Go l D ad aC (rmk m_M_digit) _ m_M_digit 18 [some (.ref a0), some (.int x1), some (.int x2), some (.int (v1 - (48 : Int32)))] [.int v3, .ref a0] h 0 0
  obtain ⟨v5, e6, e⟩ := bd_inv e
  refine Go.callV (M2 := m_M_take) (a := a0) (as := [.int v3]) (rest := []) (v := none) (h1 := v5) (x_M_take hf hI k0 e6) wv_M_157 k0 kc_8 (by decide +kernel) rfl rfl ⟨⟨Nat.le_of_ble_eq_true rfl, Nat.le_of_ble_eq_true rfl⟩, ⟨Nat.le_of_ble_eq_true rfl, Nat.le_of_ble_eq_true rfl⟩⟩ (Nat.le_of_ble_eq_true rfl) ?_
  show Go l D ad aC (rmk m_M_digit) _ m_M_digit 21 [some (.ref a0), some (.int x1), some (.int x2), some (.int (v1 - (48 : Int32)))] [] v5 0 0
  refine Go.run (pc' := 22) [.aload_n 0] (ls' := [some (.ref a0), some (.int x1), some (.int x2), some (.int (v1 - (48 : Int32)))]) (st' := [.ref a0]) (by decide +kernel) rfl rfl ?_
  refine Go.getI fo_M_149 k0 (by decide +kernel) ?_
  refine Go.if_eq (off := 7) (tgt := 32) (by decide +kernel) (by decide) (fun c7 => ?_) (fun c7 => ?_)
  · replace e := ite_t c7 e
    refine Go.run (pc' := 33) [.iload_n 1] (ls' := [some (.ref a0), some (.int x1), some (.int x2), some (.int (v1 - (48 : Int32)))]) (st' := [.int x1]) (by decide +kernel) rfl rfl ?_
    obtain rfl := Option.some.inj e
    exact Go.iret rfl (by decide) (by decide) (by decide +kernel)
  · replace e := ite_f c7 e
    refine Go.run (pc' := 29) [.iload_n 3] (ls' := [some (.ref a0), some (.int x1), some (.int x2), some (.int (v1 - (48 : Int32)))]) (st' := [.int (v1 - (48 : Int32))]) (by decide +kernel) rfl rfl ?_
    refine Go.goto (off := 4) (tgt := 33) (by decide +kernel) (by decide) ?_
    obtain rfl := Option.some.inj e
    exact Go.iret rfl (by decide) (by decide) (by decide +kernel)
def f_M_two_51  (s0 : Int32) (b1 : Nat) (s2 : Int32) (s3 : Int32) (h : HP) : Option (Int32 × HP) :=
  (f_M_digit h b1 s2 s3).bind fun v1 =>
  some (s0 + v1.1, v1.2)
set_option maxHeartbeats 1000000 in
theorem x_M_two_51 {l : Launch} {D : va_G} {ad : Nat → Nat} {aC : Nat → ClassId} (hf : l.flags = flags0) (hI : Inj ad) {s0 : Int32} {b1 : Nat} {s2 : Int32} {s3 : Int32} {h : HP} {r : Int32 × HP} (kb1 : knd b1 = 8) (e : f_M_two_51 s0 b1 s2 s3 h = some r) : Go l D ad aC (rmk m_M_two) (QM D ad aC m_M_two (.inl (some (.int r.1))) r.2) m_M_two 51 [none, none, none, none] [.int s3, .int s2, .ref b1, .int s0] h 0 0 := by
  unfold f_M_two_51 at e
  obtain ⟨v1, e2, e⟩ := bd_inv e
  refine Go.callV (M2 := m_M_digit) (a := b1) (as := [.int s2, .int s3]) (rest := [.int s0]) (v := some (.int v1.1)) (h1 := v1.2) (x_M_digit hf hI kb1 e2) wv_M_161 kb1 kc_8 (by decide +kernel) rfl rfl ⟨⟨Nat.le_of_ble_eq_true rfl, Nat.le_of_ble_eq_true rfl⟩, ⟨Nat.le_of_ble_eq_true rfl, Nat.le_of_ble_eq_true rfl⟩⟩ (Nat.le_of_ble_eq_true rfl) ?_
  show Go l D ad aC (rmk m_M_two) _ m_M_two 54 [none, none, none, none] [.int v1.1, .int s0] v1.2 0 0
  refine Go.run (pc' := 55) [.iadd] (ls' := [none, none, none, none]) (st' := [.int (s0 + v1.1)]) (by decide +kernel) rfl rfl ?_
  obtain rfl := Option.some.inj e
  exact Go.iret rfl (by decide) (by decide) (by decide +kernel)
def f_M_two_34  (x2 : Int32) (x3 : Int32) (s0 : Int32) (b1 : Nat) (s2 : Int32) (h : HP) : Option (Int32 × HP) :=
  if x3 = (x2 / (10 : Int32)) then
    f_M_two_51 s0 b1 s2 (x2 - x2 / (10 : Int32) * (10 : Int32)) h
  else
    f_M_two_51 s0 b1 s2 (9 : Int32) h
set_option maxHeartbeats 1000000 in
theorem x_M_two_34 {l : Launch} {D : va_G} {ad : Nat → Nat} {aC : Nat → ClassId} (hf : l.flags = flags0) (hI : Inj ad) {x2 : Int32} {x3 : Int32} {s0 : Int32} {b1 : Nat} {s2 : Int32} {h : HP} {r : Int32 × HP} (kb1 : knd b1 = 8) (e : f_M_two_34 x2 x3 s0 b1 s2 h = some r) : Go l D ad aC (rmk m_M_two) (QM D ad aC m_M_two (.inl (some (.int r.1))) r.2) m_M_two 34 [none, none, some (.int x2), some (.int x3)] [.int s2, .ref b1, .int s0] h 0 0 := by
  unfold f_M_two_34 at e
  refine Go.run (pc' := 39) [.iload_n 3, .iload_n 2, .bipush (10), .idiv] (ls' := [none, none, some (.int x2), some (.int x3)]) (st' := [.int (x2 / (10 : Int32)), .int x3, .int s2, .ref b1, .int s0]) (by decide +kernel) rfl rfl ?_
  refine Go.ic_ne (off := 10) (tgt := 49) (by decide +kernel) (by decide) (fun c1 => ?_) (fun c1 => ?_)
  · replace e := ite_f c1 e
    refine Go.run (pc' := 51) [.bipush (9)] (ls' := [none, none, some (.int x2), some (.int x3)]) (st' := [.int (9 : Int32), .int s2, .ref b1, .int s0]) (by decide +kernel) rfl rfl ?_
    refine Go.wk' (wks (wks (wkn (wkn wk0)))) ?_
    exact x_M_two_51 hf hI kb1 e
  · replace e := ite_t c1 e
    refine Go.run (pc' := 46) [.iload_n 2, .bipush (10), .irem] (ls' := [none, none, some (.int x2), some (.int x3)]) (st' := [.int (x2 - x2 / (10 : Int32) * (10 : Int32)), .int s2, .ref b1, .int s0]) (by decide +kernel) rfl rfl ?_
    refine Go.goto (off := 5) (tgt := 51) (by decide +kernel) (by decide) ?_
    refine Go.wk' (wks (wks (wkn (wkn wk0)))) ?_
    exact x_M_two_51 hf hI kb1 e
def f_M_two (h : HP) (a0 : Nat) (x1 : Int32) (x2 : Int32) : Option (Int32 × HP) :=
  (f_M_digit h a0 (x1 / (10 : Int32)) (x2 / (10 : Int32))).bind fun v1 =>
  if v1.1 = (x1 / (10 : Int32)) then
    f_M_two_34 x2 v1.1 ((10 : Int32) * v1.1) a0 (x1 - x1 / (10 : Int32) * (10 : Int32)) v1.2
  else
    f_M_two_34 x2 v1.1 ((10 : Int32) * v1.1) a0 (0 : Int32) v1.2
set_option maxHeartbeats 1000000 in
theorem x_M_two {l : Launch} {D : va_G} {ad : Nat → Nat} {aC : Nat → ClassId} (hf : l.flags = flags0) (hI : Inj ad) {h : HP} {a0 : Nat} {x1 : Int32} {x2 : Int32} {r : Int32 × HP} (k0 : knd a0 = 8) (e : f_M_two h a0 x1 x2 = some r) : CT l D ad aC m_M_two [.ref a0, .int x1, .int x2] h (.inl (some (.int r.1))) r.2 := by
  refine CT.ofGo (by decide +kernel) rfl (Nat.le_of_ble_eq_true rfl) ?_
  unfold f_M_two at e
  show Go l D ad aC (rmk m_M_two) _ m_M_two 0 [some (.ref a0), some (.int x1), some (.int x2), none] [] h 0 0
  refine Go.run (pc' := 9) [.aload_n 0, .iload_n 1, .bipush (10), .idiv, .iload_n 2, .bipush (10), .idiv] (ls' := [some (.ref a0), some (.int x1), some (.int x2), none]) (st' := [.int (x2 / (10 : Int32)), .int (x1 / (10 : Int32)), .ref a0]) (by decide +kernel) rfl rfl ?_
  obtain ⟨v1, e2, e⟩ := bd_inv e
  refine Go.callV (M2 := m_M_digit) (a := a0) (as := [.int (x1 / (10 : Int32)), .int (x2 / (10 : Int32))]) (rest := []) (v := some (.int v1.1)) (h1 := v1.2) (x_M_digit hf hI k0 e2) wv_M_161 k0 kc_8 (by decide +kernel) rfl rfl ⟨⟨Nat.le_of_ble_eq_true rfl, Nat.le_of_ble_eq_true rfl⟩, ⟨Nat.le_of_ble_eq_true rfl, Nat.le_of_ble_eq_true rfl⟩⟩ (Nat.le_of_ble_eq_true rfl) ?_
  show Go l D ad aC (rmk m_M_two) _ m_M_two 12 [some (.ref a0), some (.int x1), some (.int x2), none] [.int v1.1] v1.2 0 0
  refine Go.run (pc' := 23) [.istore_n 3, .bipush (10), .iload_n 3, .imul, .aload_n 0, .iload_n 3, .iload_n 1, .bipush (10), .idiv] (ls' := [some (.ref a0), some (.int x1), some (.int x2), some (.int v1.1)]) (st' := [.int (x1 / (10 : Int32)), .int v1.1, .ref a0, .int ((10 : Int32) * v1.1)]) (by decide +kernel) rfl rfl ?_
  refine Go.ic_ne (off := 10) (tgt := 33) (by decide +kernel) (by decide) (fun c3 => ?_) (fun c3 => ?_)
  · replace e := ite_f c3 e
    refine Go.run (pc' := 34) [.iconst 0] (ls' := [some (.ref a0), some (.int x1), some (.int x2), some (.int v1.1)]) (st' := [.int (0 : Int32), .ref a0, .int ((10 : Int32) * v1.1)]) (by decide +kernel) rfl rfl ?_
    refine Go.wk' (wkn (wkn (wks (wks wk0)))) ?_
    exact x_M_two_34 hf hI k0 e
  · replace e := ite_t c3 e
    refine Go.run (pc' := 30) [.iload_n 1, .bipush (10), .irem] (ls' := [some (.ref a0), some (.int x1), some (.int x2), some (.int v1.1)]) (st' := [.int (x1 - x1 / (10 : Int32) * (10 : Int32)), .ref a0, .int ((10 : Int32) * v1.1)]) (by decide +kernel) rfl rfl ?_
    refine Go.goto (off := 4) (tgt := 34) (by decide +kernel) (by decide) ?_
    refine Go.wk' (wkn (wkn (wks (wks wk0)))) ?_
    exact x_M_two_34 hf hI k0 e
def f_M_goes_21  (a0 : Nat) (x1 : Int32) (b0 : Nat) (s1 : Int32) (s2 : Int32) (h : HP) : Option (Int32 × HP) :=
  (some (hset h b0 15 (s1 + s2))).bind fun h1 =>
  if (h1 a0 14) = 0 then
    some ((0 : Int32), h1)
  else
    if x1 = 0 then
      some ((0 : Int32), h1)
    else
      some ((1 : Int32), h1)
set_option maxHeartbeats 1000000 in
theorem x_M_goes_21 {l : Launch} {D : va_G} {ad : Nat → Nat} {aC : Nat → ClassId} (hf : l.flags = flags0) (hI : Inj ad) {a0 : Nat} {x1 : Int32} {b0 : Nat} {s1 : Int32} {s2 : Int32} {h : HP} {r : Int32 × HP} (k0 : knd a0 = 8) (kb0 : knd b0 = 8) (e : f_M_goes_21 a0 x1 b0 s1 s2 h = some r) : Go l D ad aC (rmk m_M_goes) (QM D ad aC m_M_goes (.inl (some (.int r.1))) r.2) m_M_goes 21 [some (.ref a0), some (.int x1)] [.int s2, .int s1, .ref b0] h 0 0 := by
  unfold f_M_goes_21 at e
  refine Go.run (pc' := 22) [.iadd] (ls' := [some (.ref a0), some (.int x1)]) (st' := [.int (s1 + s2), .ref b0]) (by decide +kernel) rfl rfl ?_
  refine Go.put hI po_M_165 kb0 (nar_i _) (fit_i _) (by decide +kernel) ?_
  obtain ⟨h1, q2, e⟩ := bd_inv e
  refine Go.eqH (Option.some.inj q2) ?_
  refine Go.run (pc' := 26) [.aload_n 0] (ls' := [some (.ref a0), some (.int x1)]) (st' := [.ref a0]) (by decide +kernel) rfl rfl ?_
  refine Go.getI fo_M_149 k0 (by decide +kernel) ?_
  refine Go.if_eq (off := 11) (tgt := 40) (by decide +kernel) (by decide) (fun c3 => ?_) (fun c3 => ?_)
  · replace e := ite_t c3 e
    refine Go.run (pc' := 41) [.iconst 0] (ls' := [some (.ref a0), some (.int x1)]) (st' := [.int (0 : Int32)]) (by decide +kernel) rfl rfl ?_
    obtain rfl := Option.some.inj e
    exact Go.zret rfl nar_z0 (by decide) (by decide) (by decide +kernel)
  · replace e := ite_f c3 e
    refine Go.run (pc' := 33) [.iload_n 1] (ls' := [some (.ref a0), some (.int x1)]) (st' := [.int x1]) (by decide +kernel) rfl rfl ?_
    refine Go.if_eq (off := 7) (tgt := 40) (by decide +kernel) (by decide) (fun c4 => ?_) (fun c4 => ?_)
    · replace e := ite_t c4 e
      refine Go.run (pc' := 41) [.iconst 0] (ls' := [some (.ref a0), some (.int x1)]) (st' := [.int (0 : Int32)]) (by decide +kernel) rfl rfl ?_
      obtain rfl := Option.some.inj e
      exact Go.zret rfl nar_z0 (by decide) (by decide) (by decide +kernel)
    · replace e := ite_f c4 e
      refine Go.run (pc' := 37) [.iconst 1] (ls' := [some (.ref a0), some (.int x1)]) (st' := [.int (1 : Int32)]) (by decide +kernel) rfl rfl ?_
      refine Go.goto (off := 4) (tgt := 41) (by decide +kernel) (by decide) ?_
      obtain rfl := Option.some.inj e
      exact Go.zret rfl nar_z1 (by decide) (by decide) (by decide +kernel)
def f_M_goes_20  (a0 : Nat) (x1 : Int32) (b0 : Nat) (s1 : Int32) (h : HP) : Option (Int32 × HP) :=
  f_M_goes_21 a0 x1 b0 s1 (0 : Int32) h
set_option maxHeartbeats 1000000 in
theorem x_M_goes_20 {l : Launch} {D : va_G} {ad : Nat → Nat} {aC : Nat → ClassId} (hf : l.flags = flags0) (hI : Inj ad) {a0 : Nat} {x1 : Int32} {b0 : Nat} {s1 : Int32} {h : HP} {r : Int32 × HP} (k0 : knd a0 = 8) (kb0 : knd b0 = 8) (e : f_M_goes_20 a0 x1 b0 s1 h = some r) : Go l D ad aC (rmk m_M_goes) (QM D ad aC m_M_goes (.inl (some (.int r.1))) r.2) m_M_goes 20 [some (.ref a0), some (.int x1)] [.int s1, .ref b0] h 0 0 := by
  unfold f_M_goes_20 at e
  refine Go.run (pc' := 21) [.iconst 0] (ls' := [some (.ref a0), some (.int x1)]) (st' := [.int (0 : Int32), .int s1, .ref b0]) (by decide +kernel) rfl rfl ?_
  exact x_M_goes_21 hf hI k0 kb0 e
def f_M_goes (h : HP) (a0 : Nat) (x1 : Int32) : Option (Int32 × HP) :=
  if (h a0 14) = 0 then
    f_M_goes_20 a0 x1 a0 (h a0 15) h
  else
    if x1 = 0 then
      f_M_goes_21 a0 x1 a0 (h a0 15) (1 : Int32) h
    else
      f_M_goes_20 a0 x1 a0 (h a0 15) h
set_option maxHeartbeats 1000000 in
theorem x_M_goes {l : Launch} {D : va_G} {ad : Nat → Nat} {aC : Nat → ClassId} (hf : l.flags = flags0) (hI : Inj ad) {h : HP} {a0 : Nat} {x1 : Int32} {r : Int32 × HP} (k0 : knd a0 = 8) (e : f_M_goes h a0 x1 = some r) : CT l D ad aC m_M_goes [.ref a0, .int x1] h (.inl (some (.int r.1))) r.2 := by
  refine CT.ofGo (by decide +kernel) rfl (Nat.le_of_ble_eq_true rfl) ?_
  unfold f_M_goes at e
  show Go l D ad aC (rmk m_M_goes) _ m_M_goes 0 [some (.ref a0), some (.int x1)] [] h 0 0
  refine Go.run (pc' := 2) [.aload_n 0, .dup] (ls' := [some (.ref a0), some (.int x1)]) (st' := [.ref a0, .ref a0]) (by decide +kernel) rfl rfl ?_
  refine Go.getI fo_M_165 k0 (by decide +kernel) ?_
  refine Go.run (pc' := 6) [.aload_n 0] (ls' := [some (.ref a0), some (.int x1)]) (st' := [.ref a0, .int (h a0 15), .ref a0]) (by decide +kernel) rfl rfl ?_
  refine Go.getI fo_M_149 k0 (by decide +kernel) ?_
  refine Go.if_eq (off := 11) (tgt := 20) (by decide +kernel) (by decide) (fun c1 => ?_) (fun c1 => ?_)
  · replace e := ite_t c1 e
    exact x_M_goes_20 hf hI k0 k0 e
  · replace e := ite_f c1 e
    refine Go.run (pc' := 13) [.iload_n 1] (ls' := [some (.ref a0), some (.int x1)]) (st' := [.int x1, .int (h a0 15), .ref a0]) (by decide +kernel) rfl rfl ?_
    refine Go.if_ne (off := 7) (tgt := 20) (by decide +kernel) (by decide) (fun c2 => ?_) (fun c2 => ?_)
    · replace e := ite_f c2 e
      exact x_M_goes_20 hf hI k0 k0 e
    · replace e := ite_t c2 e
      refine Go.run (pc' := 17) [.iconst 1] (ls' := [some (.ref a0), some (.int x1)]) (st' := [.int (1 : Int32), .int (h a0 15), .ref a0]) (by decide +kernel) rfl rfl ?_
      refine Go.goto (off := 4) (tgt := 21) (by decide +kernel) (by decide) ?_
      exact x_M_goes_21 hf hI k0 k0 e
def f_M_readOutlet (h : HP) (a0 : Nat) : Option (Int32 × HP) :=
  (f_M_digit h a0 (0 : Int32) (3 : Int32)).bind fun v1 =>
  (f_M_two v1.2 a0 (0 : Int32) (29 : Int32)).bind fun v3 =>
  (f_M_digit v3.2 a0 (0 : Int32) (4 : Int32)).bind fun v5 =>
  (f_M_isMetre v5.2 (fld a0 3) v1.1 v3.1).bind fun v7 =>
  (f_M_goes v5.2 a0 v7).bind fun v9 =>
  if v9.1 = 0 then
    some ((0 : Int32), v9.2)
  else
    (f_M_put v9.2 (fld a0 3) ((((31 : Int32) * v1.1) + (1 : Int32)) + v3.1) v5.1).bind fun v12 =>
    some (v12.1, v12.2)
set_option maxHeartbeats 1000000 in
theorem x_M_readOutlet {l : Launch} {D : va_G} {ad : Nat → Nat} {aC : Nat → ClassId} (hf : l.flags = flags0) (hI : Inj ad) {h : HP} {a0 : Nat} {r : Int32 × HP} (k0 : knd a0 = 8) (e : f_M_readOutlet h a0 = some r) : CT l D ad aC m_M_readOutlet [.ref a0] h (.inl (some (.int r.1))) r.2 := by
  refine CT.ofGo (by decide +kernel) rfl (Nat.le_of_ble_eq_true rfl) ?_
  unfold f_M_readOutlet at e
  show Go l D ad aC (rmk m_M_readOutlet) _ m_M_readOutlet 0 [some (.ref a0), none, none, none] [] h 0 0
  refine Go.run (pc' := 3) [.aload_n 0, .iconst 0, .iconst 3] (ls' := [some (.ref a0), none, none, none]) (st' := [.int (3 : Int32), .int (0 : Int32), .ref a0]) (by decide +kernel) rfl rfl ?_
  obtain ⟨v1, e2, e⟩ := bd_inv e
  refine Go.callV (M2 := m_M_digit) (a := a0) (as := [.int (0 : Int32), .int (3 : Int32)]) (rest := []) (v := some (.int v1.1)) (h1 := v1.2) (x_M_digit hf hI k0 e2) wv_M_161 k0 kc_8 (by decide +kernel) rfl rfl ⟨⟨Nat.le_of_ble_eq_true rfl, Nat.le_of_ble_eq_true rfl⟩, ⟨Nat.le_of_ble_eq_true rfl, Nat.le_of_ble_eq_true rfl⟩⟩ (Nat.le_of_ble_eq_true rfl) ?_
  show Go l D ad aC (rmk m_M_readOutlet) _ m_M_readOutlet 6 [some (.ref a0), none, none, none] [.int v1.1] v1.2 0 0
  refine Go.run (pc' := 11) [.istore_n 1, .aload_n 0, .iconst 0, .bipush (29)] (ls' := [some (.ref a0), some (.int v1.1), none, none]) (st' := [.int (29 : Int32), .int (0 : Int32), .ref a0]) (by decide +kernel) rfl rfl ?_
  obtain ⟨v3, e4, e⟩ := bd_inv e
  refine Go.callV (M2 := m_M_two) (a := a0) (as := [.int (0 : Int32), .int (29 : Int32)]) (rest := []) (v := some (.int v3.1)) (h1 := v3.2) (x_M_two hf hI k0 e4) wv_M_168 k0 kc_8 (by decide +kernel) rfl rfl ⟨⟨Nat.le_of_ble_eq_true rfl, Nat.le_of_ble_eq_true rfl⟩, ⟨Nat.le_of_ble_eq_true rfl, Nat.le_of_ble_eq_true rfl⟩⟩ (Nat.le_of_ble_eq_true rfl) ?_
  show Go l D ad aC (rmk m_M_readOutlet) _ m_M_readOutlet 14 [some (.ref a0), some (.int v1.1), none, none] [.int v3.1] v3.2 0 0
  refine Go.run (pc' := 18) [.istore_n 2, .aload_n 0, .iconst 0, .iconst 4] (ls' := [some (.ref a0), some (.int v1.1), some (.int v3.1), none]) (st' := [.int (4 : Int32), .int (0 : Int32), .ref a0]) (by decide +kernel) rfl rfl ?_
  obtain ⟨v5, e6, e⟩ := bd_inv e
  refine Go.callV (M2 := m_M_digit) (a := a0) (as := [.int (0 : Int32), .int (4 : Int32)]) (rest := []) (v := some (.int v5.1)) (h1 := v5.2) (x_M_digit hf hI k0 e6) wv_M_161 k0 kc_8 (by decide +kernel) rfl rfl ⟨⟨Nat.le_of_ble_eq_true rfl, Nat.le_of_ble_eq_true rfl⟩, ⟨Nat.le_of_ble_eq_true rfl, Nat.le_of_ble_eq_true rfl⟩⟩ (Nat.le_of_ble_eq_true rfl) ?_
  show Go l D ad aC (rmk m_M_readOutlet) _ m_M_readOutlet 21 [some (.ref a0), some (.int v1.1), some (.int v3.1), none] [.int v5.1] v5.2 0 0
  refine Go.run (pc' := 24) [.istore_n 3, .aload_n 0, .aload_n 0] (ls' := [some (.ref a0), some (.int v1.1), some (.int v3.1), some (.int v5.1)]) (st' := [.ref a0, .ref a0]) (by decide +kernel) rfl rfl ?_
  refine Go.getR fo_M_16 k0 (by decide +kernel) ?_
  refine Go.run (pc' := 29) [.iload_n 1, .iload_n 2] (ls' := [some (.ref a0), some (.int v1.1), some (.int v3.1), some (.int v5.1)]) (st' := [.int v3.1, .int v1.1, .ref (fld a0 3), .ref a0]) (by decide +kernel) rfl rfl ?_
  obtain ⟨v7, e8, e⟩ := bd_inv e
  refine Go.callS (M2 := m_M_isMetre) (as := [.ref (fld a0 3), .int v1.1, .int v3.1]) (rest := [.ref a0]) (v := some (.int v7)) (h1 := v5.2) (x_M_isMetre hf hI (kf_8_j 3 k0 (by decide) (by decide)) (al_8_j 3 k0 (by decide) (by decide) rfl) e8) ws_M_171 (by decide +kernel) rfl rfl ⟨⟨Nat.le_of_ble_eq_true rfl, Nat.le_of_ble_eq_true rfl⟩, ⟨Nat.le_of_ble_eq_true rfl, Nat.le_of_ble_eq_true rfl⟩⟩ (Nat.le_of_ble_eq_true rfl) ?_
  show Go l D ad aC (rmk m_M_readOutlet) _ m_M_readOutlet 32 [some (.ref a0), some (.int v1.1), some (.int v3.1), some (.int v5.1)] [.int v7, .ref a0] v5.2 0 0
  obtain ⟨v9, e10, e⟩ := bd_inv e
  refine Go.callV (M2 := m_M_goes) (a := a0) (as := [.int v7]) (rest := []) (v := some (.int v9.1)) (h1 := v9.2) (x_M_goes hf hI k0 e10) wv_M_174 k0 kc_8 (by decide +kernel) rfl rfl ⟨⟨Nat.le_of_ble_eq_true rfl, Nat.le_of_ble_eq_true rfl⟩, ⟨Nat.le_of_ble_eq_true rfl, Nat.le_of_ble_eq_true rfl⟩⟩ (Nat.le_of_ble_eq_true rfl) ?_
  show Go l D ad aC (rmk m_M_readOutlet) _ m_M_readOutlet 35 [some (.ref a0), some (.int v1.1), some (.int v3.1), some (.int v5.1)] [.int v9.1] v9.2 0 0
  refine Go.if_eq (off := 22) (tgt := 57) (by decide +kernel) (by decide) (fun c11 => ?_) (fun c11 => ?_)
  · replace e := ite_t c11 e
    refine Go.run (pc' := 58) [.iconst 0] (ls' := [some (.ref a0), some (.int v1.1), some (.int v3.1), some (.int v5.1)]) (st' := [.int (0 : Int32)]) (by decide +kernel) rfl rfl ?_
    obtain rfl := Option.some.inj e
    exact Go.iret rfl (by decide) (by decide) (by decide +kernel)
  · replace e := ite_f c11 e
    refine Go.run (pc' := 39) [.aload_n 0] (ls' := [some (.ref a0), some (.int v1.1), some (.int v3.1), some (.int v5.1)]) (st' := [.ref a0]) (by decide +kernel) rfl rfl ?_
    refine Go.getR fo_M_16 k0 (by decide +kernel) ?_
    refine Go.run (pc' := 51) [.bipush (31), .iload_n 1, .imul, .iconst 1, .iadd, .iload_n 2, .iadd, .iload_n 3] (ls' := [some (.ref a0), some (.int v1.1), some (.int v3.1), some (.int v5.1)]) (st' := [.int v5.1, .int ((((31 : Int32) * v1.1) + (1 : Int32)) + v3.1), .ref (fld a0 3)]) (by decide +kernel) rfl rfl ?_
    obtain ⟨v12, e13, e⟩ := bd_inv e
    refine Go.callS (M2 := m_M_put) (as := [.ref (fld a0 3), .int ((((31 : Int32) * v1.1) + (1 : Int32)) + v3.1), .int v5.1]) (rest := []) (v := some (.int v12.1)) (h1 := v12.2) (x_M_put hf hI (kf_8_j 3 k0 (by decide) (by decide)) (al_8_j 3 k0 (by decide) (by decide) rfl) e13) ws_M_178 (by decide +kernel) rfl rfl ⟨⟨Nat.le_of_ble_eq_true rfl, Nat.le_of_ble_eq_true rfl⟩, ⟨Nat.le_of_ble_eq_true rfl, Nat.le_of_ble_eq_true rfl⟩⟩ (Nat.le_of_ble_eq_true rfl) ?_
    show Go l D ad aC (rmk m_M_readOutlet) _ m_M_readOutlet 54 [some (.ref a0), some (.int v1.1), some (.int v3.1), some (.int v5.1)] [.int v12.1] v12.2 0 0
    refine Go.goto (off := 4) (tgt := 58) (by decide +kernel) (by decide) ?_
    obtain rfl := Option.some.inj e
    exact Go.iret rfl (by decide) (by decide) (by decide +kernel)
def f_M_readDealer_41  (a0 : Nat) (x1 : Int32) (x2 : Int32) (x3 : Int32) (b0 : Nat) (s1 : Int32) (h : HP) : Option (Int32 × HP) :=
  (f_M_goes h b0 s1).bind fun v1 =>
  if v1.1 = 0 then
    some ((0 : Int32), v1.2)
  else
    (f_M_addDealer v1.2 (fld a0 3) x1 x2 x3).bind fun v4 =>
    some (v4.1, v4.2)
set_option maxHeartbeats 1000000 in
theorem x_M_readDealer_41 {l : Launch} {D : va_G} {ad : Nat → Nat} {aC : Nat → ClassId} (hf : l.flags = flags0) (hI : Inj ad) {a0 : Nat} {x1 : Int32} {x2 : Int32} {x3 : Int32} {b0 : Nat} {s1 : Int32} {h : HP} {r : Int32 × HP} (k0 : knd a0 = 8) (kb0 : knd b0 = 8) (e : f_M_readDealer_41 a0 x1 x2 x3 b0 s1 h = some r) : Go l D ad aC (rmk m_M_readDealer) (QM D ad aC m_M_readDealer (.inl (some (.int r.1))) r.2) m_M_readDealer 41 [some (.ref a0), some (.int x1), some (.int x2), some (.int x3)] [.int s1, .ref b0] h 0 0 := by
  unfold f_M_readDealer_41 at e
  obtain ⟨v1, e2, e⟩ := bd_inv e
  refine Go.callV (M2 := m_M_goes) (a := b0) (as := [.int s1]) (rest := []) (v := some (.int v1.1)) (h1 := v1.2) (x_M_goes hf hI kb0 e2) wv_M_174 kb0 kc_8 (by decide +kernel) rfl rfl ⟨⟨Nat.le_of_ble_eq_true rfl, Nat.le_of_ble_eq_true rfl⟩, ⟨Nat.le_of_ble_eq_true rfl, Nat.le_of_ble_eq_true rfl⟩⟩ (Nat.le_of_ble_eq_true rfl) ?_
  show Go l D ad aC (rmk m_M_readDealer) _ m_M_readDealer 44 [some (.ref a0), some (.int x1), some (.int x2), some (.int x3)] [.int v1.1] v1.2 0 0
  refine Go.if_eq (off := 16) (tgt := 60) (by decide +kernel) (by decide) (fun c3 => ?_) (fun c3 => ?_)
  · replace e := ite_t c3 e
    refine Go.run (pc' := 61) [.iconst 0] (ls' := [some (.ref a0), some (.int x1), some (.int x2), some (.int x3)]) (st' := [.int (0 : Int32)]) (by decide +kernel) rfl rfl ?_
    obtain rfl := Option.some.inj e
    exact Go.iret rfl (by decide) (by decide) (by decide +kernel)
  · replace e := ite_f c3 e
    refine Go.run (pc' := 48) [.aload_n 0] (ls' := [some (.ref a0), some (.int x1), some (.int x2), some (.int x3)]) (st' := [.ref a0]) (by decide +kernel) rfl rfl ?_
    refine Go.getR fo_M_16 k0 (by decide +kernel) ?_
    refine Go.run (pc' := 54) [.iload_n 1, .iload_n 2, .iload_n 3] (ls' := [some (.ref a0), some (.int x1), some (.int x2), some (.int x3)]) (st' := [.int x3, .int x2, .int x1, .ref (fld a0 3)]) (by decide +kernel) rfl rfl ?_
    obtain ⟨v4, e5, e⟩ := bd_inv e
    refine Go.callS (M2 := m_M_addDealer) (as := [.ref (fld a0 3), .int x1, .int x2, .int x3]) (rest := []) (v := some (.int v4.1)) (h1 := v4.2) (x_M_addDealer hf hI (kf_8_j 3 k0 (by decide) (by decide)) (al_8_j 3 k0 (by decide) (by decide) rfl) e5) ws_M_181 (by decide +kernel) rfl rfl ⟨⟨Nat.le_of_ble_eq_true rfl, Nat.le_of_ble_eq_true rfl⟩, ⟨Nat.le_of_ble_eq_true rfl, Nat.le_of_ble_eq_true rfl⟩⟩ (Nat.le_of_ble_eq_true rfl) ?_
    show Go l D ad aC (rmk m_M_readDealer) _ m_M_readDealer 57 [some (.ref a0), some (.int x1), some (.int x2), some (.int x3)] [.int v4.1] v4.2 0 0
    refine Go.goto (off := 4) (tgt := 61) (by decide +kernel) (by decide) ?_
    obtain rfl := Option.some.inj e
    exact Go.iret rfl (by decide) (by decide) (by decide +kernel)
def f_M_readDealer (h : HP) (a0 : Nat) : Option (Int32 × HP) :=
  (f_M_digit h a0 (0 : Int32) (5 : Int32)).bind fun v1 =>
  (f_M_digit v1.2 a0 (1 : Int32) (9 : Int32)).bind fun v3 =>
  (f_M_digit v3.2 a0 (0 : Int32) (3 : Int32)).bind fun v5 =>
  if ib (185 : Int32) 196 = true then
  if (10 : Int32) ≤ (v5.2 (fld a0 3) (185 : Int32).toNatClampNeg) then
    f_M_readDealer_41 a0 v1.1 v3.1 v5.1 a0 (0 : Int32) v5.2
  else
    f_M_readDealer_41 a0 v1.1 v3.1 v5.1 a0 (1 : Int32) v5.2
  else none
set_option maxHeartbeats 1000000 in
theorem x_M_readDealer {l : Launch} {D : va_G} {ad : Nat → Nat} {aC : Nat → ClassId} (hf : l.flags = flags0) (hI : Inj ad) {h : HP} {a0 : Nat} {r : Int32 × HP} (k0 : knd a0 = 8) (e : f_M_readDealer h a0 = some r) : CT l D ad aC m_M_readDealer [.ref a0] h (.inl (some (.int r.1))) r.2 := by
  refine CT.ofGo (by decide +kernel) rfl (Nat.le_of_ble_eq_true rfl) ?_
  unfold f_M_readDealer at e
  show Go l D ad aC (rmk m_M_readDealer) _ m_M_readDealer 0 [some (.ref a0), none, none, none] [] h 0 0
  refine Go.run (pc' := 3) [.aload_n 0, .iconst 0, .iconst 5] (ls' := [some (.ref a0), none, none, none]) (st' := [.int (5 : Int32), .int (0 : Int32), .ref a0]) (by decide +kernel) rfl rfl ?_
  obtain ⟨v1, e2, e⟩ := bd_inv e
  refine Go.callV (M2 := m_M_digit) (a := a0) (as := [.int (0 : Int32), .int (5 : Int32)]) (rest := []) (v := some (.int v1.1)) (h1 := v1.2) (x_M_digit hf hI k0 e2) wv_M_161 k0 kc_8 (by decide +kernel) rfl rfl ⟨⟨Nat.le_of_ble_eq_true rfl, Nat.le_of_ble_eq_true rfl⟩, ⟨Nat.le_of_ble_eq_true rfl, Nat.le_of_ble_eq_true rfl⟩⟩ (Nat.le_of_ble_eq_true rfl) ?_
  show Go l D ad aC (rmk m_M_readDealer) _ m_M_readDealer 6 [some (.ref a0), none, none, none] [.int v1.1] v1.2 0 0
  refine Go.run (pc' := 11) [.istore_n 1, .aload_n 0, .iconst 1, .bipush (9)] (ls' := [some (.ref a0), some (.int v1.1), none, none]) (st' := [.int (9 : Int32), .int (1 : Int32), .ref a0]) (by decide +kernel) rfl rfl ?_
  obtain ⟨v3, e4, e⟩ := bd_inv e
  refine Go.callV (M2 := m_M_digit) (a := a0) (as := [.int (1 : Int32), .int (9 : Int32)]) (rest := []) (v := some (.int v3.1)) (h1 := v3.2) (x_M_digit hf hI k0 e4) wv_M_161 k0 kc_8 (by decide +kernel) rfl rfl ⟨⟨Nat.le_of_ble_eq_true rfl, Nat.le_of_ble_eq_true rfl⟩, ⟨Nat.le_of_ble_eq_true rfl, Nat.le_of_ble_eq_true rfl⟩⟩ (Nat.le_of_ble_eq_true rfl) ?_
  show Go l D ad aC (rmk m_M_readDealer) _ m_M_readDealer 14 [some (.ref a0), some (.int v1.1), none, none] [.int v3.1] v3.2 0 0
  refine Go.run (pc' := 18) [.istore_n 2, .aload_n 0, .iconst 0, .iconst 3] (ls' := [some (.ref a0), some (.int v1.1), some (.int v3.1), none]) (st' := [.int (3 : Int32), .int (0 : Int32), .ref a0]) (by decide +kernel) rfl rfl ?_
  obtain ⟨v5, e6, e⟩ := bd_inv e
  refine Go.callV (M2 := m_M_digit) (a := a0) (as := [.int (0 : Int32), .int (3 : Int32)]) (rest := []) (v := some (.int v5.1)) (h1 := v5.2) (x_M_digit hf hI k0 e6) wv_M_161 k0 kc_8 (by decide +kernel) rfl rfl ⟨⟨Nat.le_of_ble_eq_true rfl, Nat.le_of_ble_eq_true rfl⟩, ⟨Nat.le_of_ble_eq_true rfl, Nat.le_of_ble_eq_true rfl⟩⟩ (Nat.le_of_ble_eq_true rfl) ?_
  show Go l D ad aC (rmk m_M_readDealer) _ m_M_readDealer 21 [some (.ref a0), some (.int v1.1), some (.int v3.1), none] [.int v5.1] v5.2 0 0
  refine Go.run (pc' := 24) [.istore_n 3, .aload_n 0, .aload_n 0] (ls' := [some (.ref a0), some (.int v1.1), some (.int v3.1), some (.int v5.1)]) (st' := [.ref a0, .ref a0]) (by decide +kernel) rfl rfl ?_
  refine Go.getR fo_M_16 k0 (by decide +kernel) ?_
  refine Go.run (pc' := 30) [.sipush (185)] (ls' := [some (.ref a0), some (.int v1.1), some (.int v3.1), some (.int v5.1)]) (st' := [.int (185 : Int32), .ref (fld a0 3), .ref a0]) (by decide +kernel) rfl rfl ?_
  obtain ⟨g7, e⟩ := gd_inv e
  refine Go.iald (kf_8_j 3 k0 (by decide) (by decide)) (al_8_j 3 k0 (by decide) (by decide) rfl) g7 (by decide +kernel) ?_
  refine Go.run (pc' := 33) [.bipush (10)] (ls' := [some (.ref a0), some (.int v1.1), some (.int v3.1), some (.int v5.1)]) (st' := [.int (10 : Int32), .int (v5.2 (fld a0 3) (185 : Int32).toNatClampNeg), .ref a0]) (by decide +kernel) rfl rfl ?_
  refine Go.ic_ge (off := 7) (tgt := 40) (by decide +kernel) (by decide) (fun c8 => ?_) (fun c8 => ?_)
  · replace e := ite_t c8 e
    refine Go.run (pc' := 41) [.iconst 0] (ls' := [some (.ref a0), some (.int v1.1), some (.int v3.1), some (.int v5.1)]) (st' := [.int (0 : Int32), .ref a0]) (by decide +kernel) rfl rfl ?_
    exact x_M_readDealer_41 hf hI k0 k0 e
  · replace e := ite_f c8 e
    refine Go.run (pc' := 37) [.iconst 1] (ls' := [some (.ref a0), some (.int v1.1), some (.int v3.1), some (.int v5.1)]) (st' := [.int (1 : Int32), .ref a0]) (by decide +kernel) rfl rfl ?_
    refine Go.goto (off := 4) (tgt := 41) (by decide +kernel) (by decide) ?_
    exact x_M_readDealer_41 hf hI k0 k0 e
def f_M_readPlace_64  (a0 : Nat) (x1 : Int32) (x2 : Int32) (x3 : Int32) (s0 : Int32) (h : HP) : Option (Int32 × HP) :=
  (f_M_goes h a0 s0).bind fun v1 =>
  if v1.1 = 0 then
    some ((0 : Int32), v1.2)
  else
    (f_M_goPlace v1.2 (fld a0 3) x1 x2 x3).bind fun v4 =>
    some (v4.1, v4.2)
set_option maxHeartbeats 1000000 in
theorem x_M_readPlace_64 {l : Launch} {D : va_G} {ad : Nat → Nat} {aC : Nat → ClassId} (hf : l.flags = flags0) (hI : Inj ad) {a0 : Nat} {x1 : Int32} {x2 : Int32} {x3 : Int32} {s0 : Int32} {h : HP} {r : Int32 × HP} (k0 : knd a0 = 8) (e : f_M_readPlace_64 a0 x1 x2 x3 s0 h = some r) : Go l D ad aC (rmk m_M_readPlace) (QM D ad aC m_M_readPlace (.inl (some (.int r.1))) r.2) m_M_readPlace 64 [some (.ref a0), some (.int x1), some (.int x2), some (.int x3), none] [.int s0] h 0 0 := by
  unfold f_M_readPlace_64 at e
  refine Go.run (pc' := 69) [.istore 4, .aload_n 0, .iload 4] (ls' := [some (.ref a0), some (.int x1), some (.int x2), some (.int x3), some (.int s0)]) (st' := [.int s0, .ref a0]) (by decide +kernel) rfl rfl ?_
  obtain ⟨v1, e2, e⟩ := bd_inv e
  refine Go.callV (M2 := m_M_goes) (a := a0) (as := [.int s0]) (rest := []) (v := some (.int v1.1)) (h1 := v1.2) (x_M_goes hf hI k0 e2) wv_M_174 k0 kc_8 (by decide +kernel) rfl rfl ⟨⟨Nat.le_of_ble_eq_true rfl, Nat.le_of_ble_eq_true rfl⟩, ⟨Nat.le_of_ble_eq_true rfl, Nat.le_of_ble_eq_true rfl⟩⟩ (Nat.le_of_ble_eq_true rfl) ?_
  show Go l D ad aC (rmk m_M_readPlace) _ m_M_readPlace 72 [some (.ref a0), some (.int x1), some (.int x2), some (.int x3), some (.int s0)] [.int v1.1] v1.2 0 0
  refine Go.if_eq (off := 16) (tgt := 88) (by decide +kernel) (by decide) (fun c3 => ?_) (fun c3 => ?_)
  · replace e := ite_t c3 e
    refine Go.run (pc' := 89) [.iconst 0] (ls' := [some (.ref a0), some (.int x1), some (.int x2), some (.int x3), some (.int s0)]) (st' := [.int (0 : Int32)]) (by decide +kernel) rfl rfl ?_
    obtain rfl := Option.some.inj e
    exact Go.iret rfl (by decide) (by decide) (by decide +kernel)
  · replace e := ite_f c3 e
    refine Go.run (pc' := 76) [.aload_n 0] (ls' := [some (.ref a0), some (.int x1), some (.int x2), some (.int x3), some (.int s0)]) (st' := [.ref a0]) (by decide +kernel) rfl rfl ?_
    refine Go.getR fo_M_16 k0 (by decide +kernel) ?_
    refine Go.run (pc' := 82) [.iload_n 1, .iload_n 2, .iload_n 3] (ls' := [some (.ref a0), some (.int x1), some (.int x2), some (.int x3), some (.int s0)]) (st' := [.int x3, .int x2, .int x1, .ref (fld a0 3)]) (by decide +kernel) rfl rfl ?_
    obtain ⟨v4, e5, e⟩ := bd_inv e
    refine Go.callS (M2 := m_M_goPlace) (as := [.ref (fld a0 3), .int x1, .int x2, .int x3]) (rest := []) (v := some (.int v4.1)) (h1 := v4.2) (x_M_goPlace hf hI (kf_8_j 3 k0 (by decide) (by decide)) (al_8_j 3 k0 (by decide) (by decide) rfl) e5) ws_M_187 (by decide +kernel) rfl rfl ⟨⟨Nat.le_of_ble_eq_true rfl, Nat.le_of_ble_eq_true rfl⟩, ⟨Nat.le_of_ble_eq_true rfl, Nat.le_of_ble_eq_true rfl⟩⟩ (Nat.le_of_ble_eq_true rfl) ?_
    show Go l D ad aC (rmk m_M_readPlace) _ m_M_readPlace 85 [some (.ref a0), some (.int x1), some (.int x2), some (.int x3), some (.int s0)] [.int v4.1] v4.2 0 0
    refine Go.goto (off := 4) (tgt := 89) (by decide +kernel) (by decide) ?_
    obtain rfl := Option.some.inj e
    exact Go.iret rfl (by decide) (by decide) (by decide +kernel)
def f_M_readPlace_63  (a0 : Nat) (x1 : Int32) (x2 : Int32) (x3 : Int32) (h : HP) : Option (Int32 × HP) :=
  f_M_readPlace_64 a0 x1 x2 x3 (0 : Int32) h
set_option maxHeartbeats 1000000 in
theorem x_M_readPlace_63 {l : Launch} {D : va_G} {ad : Nat → Nat} {aC : Nat → ClassId} (hf : l.flags = flags0) (hI : Inj ad) {a0 : Nat} {x1 : Int32} {x2 : Int32} {x3 : Int32} {h : HP} {r : Int32 × HP} (k0 : knd a0 = 8) (e : f_M_readPlace_63 a0 x1 x2 x3 h = some r) : Go l D ad aC (rmk m_M_readPlace) (QM D ad aC m_M_readPlace (.inl (some (.int r.1))) r.2) m_M_readPlace 63 [some (.ref a0), some (.int x1), some (.int x2), some (.int x3), none] [] h 0 0 := by
  unfold f_M_readPlace_63 at e
  refine Go.run (pc' := 64) [.iconst 0] (ls' := [some (.ref a0), some (.int x1), some (.int x2), some (.int x3), none]) (st' := [.int (0 : Int32)]) (by decide +kernel) rfl rfl ?_
  exact x_M_readPlace_64 hf hI k0 e
def f_M_readPlace (h : HP) (a0 : Nat) : Option (Int32 × HP) :=
  (f_M_digit h a0 (0 : Int32) (9 : Int32)).bind fun v1 =>
  (f_M_digit v1.2 a0 (0 : Int32) (3 : Int32)).bind fun v3 =>
  (f_M_two v3.2 a0 (0 : Int32) (29 : Int32)).bind fun v5 =>
  (f_M_isDealer v5.2 (fld a0 3) v1.1).bind fun v7 =>
  if v7 = 0 then
    f_M_readPlace_63 a0 v1.1 v3.1 v5.1 v5.2
  else
    (f_M_isMetre v5.2 (fld a0 3) v3.1 v5.1).bind fun v10 =>
    if v10 = 0 then
      f_M_readPlace_63 a0 v1.1 v3.1 v5.1 v5.2
    else
      (f_M_whyNoPlace v5.2 (fld a0 3) v1.1 v3.1 v5.1).bind fun v13 =>
      if v13 = 0 then
        f_M_readPlace_64 a0 v1.1 v3.1 v5.1 (1 : Int32) v5.2
      else
        f_M_readPlace_63 a0 v1.1 v3.1 v5.1 v5.2
set_option maxHeartbeats 1000000 in
theorem x_M_readPlace {l : Launch} {D : va_G} {ad : Nat → Nat} {aC : Nat → ClassId} (hf : l.flags = flags0) (hI : Inj ad) {h : HP} {a0 : Nat} {r : Int32 × HP} (k0 : knd a0 = 8) (e : f_M_readPlace h a0 = some r) : CT l D ad aC m_M_readPlace [.ref a0] h (.inl (some (.int r.1))) r.2 := by
  refine CT.ofGo (by decide +kernel) rfl (Nat.le_of_ble_eq_true rfl) ?_
  unfold f_M_readPlace at e
  show Go l D ad aC (rmk m_M_readPlace) _ m_M_readPlace 0 [some (.ref a0), none, none, none, none] [] h 0 0
  refine Go.run (pc' := 4) [.aload_n 0, .iconst 0, .bipush (9)] (ls' := [some (.ref a0), none, none, none, none]) (st' := [.int (9 : Int32), .int (0 : Int32), .ref a0]) (by decide +kernel) rfl rfl ?_
  obtain ⟨v1, e2, e⟩ := bd_inv e
  refine Go.callV (M2 := m_M_digit) (a := a0) (as := [.int (0 : Int32), .int (9 : Int32)]) (rest := []) (v := some (.int v1.1)) (h1 := v1.2) (x_M_digit hf hI k0 e2) wv_M_161 k0 kc_8 (by decide +kernel) rfl rfl ⟨⟨Nat.le_of_ble_eq_true rfl, Nat.le_of_ble_eq_true rfl⟩, ⟨Nat.le_of_ble_eq_true rfl, Nat.le_of_ble_eq_true rfl⟩⟩ (Nat.le_of_ble_eq_true rfl) ?_
  show Go l D ad aC (rmk m_M_readPlace) _ m_M_readPlace 7 [some (.ref a0), none, none, none, none] [.int v1.1] v1.2 0 0
  refine Go.run (pc' := 11) [.istore_n 1, .aload_n 0, .iconst 0, .iconst 3] (ls' := [some (.ref a0), some (.int v1.1), none, none, none]) (st' := [.int (3 : Int32), .int (0 : Int32), .ref a0]) (by decide +kernel) rfl rfl ?_
  obtain ⟨v3, e4, e⟩ := bd_inv e
  refine Go.callV (M2 := m_M_digit) (a := a0) (as := [.int (0 : Int32), .int (3 : Int32)]) (rest := []) (v := some (.int v3.1)) (h1 := v3.2) (x_M_digit hf hI k0 e4) wv_M_161 k0 kc_8 (by decide +kernel) rfl rfl ⟨⟨Nat.le_of_ble_eq_true rfl, Nat.le_of_ble_eq_true rfl⟩, ⟨Nat.le_of_ble_eq_true rfl, Nat.le_of_ble_eq_true rfl⟩⟩ (Nat.le_of_ble_eq_true rfl) ?_
  show Go l D ad aC (rmk m_M_readPlace) _ m_M_readPlace 14 [some (.ref a0), some (.int v1.1), none, none, none] [.int v3.1] v3.2 0 0
  refine Go.run (pc' := 19) [.istore_n 2, .aload_n 0, .iconst 0, .bipush (29)] (ls' := [some (.ref a0), some (.int v1.1), some (.int v3.1), none, none]) (st' := [.int (29 : Int32), .int (0 : Int32), .ref a0]) (by decide +kernel) rfl rfl ?_
  obtain ⟨v5, e6, e⟩ := bd_inv e
  refine Go.callV (M2 := m_M_two) (a := a0) (as := [.int (0 : Int32), .int (29 : Int32)]) (rest := []) (v := some (.int v5.1)) (h1 := v5.2) (x_M_two hf hI k0 e6) wv_M_168 k0 kc_8 (by decide +kernel) rfl rfl ⟨⟨Nat.le_of_ble_eq_true rfl, Nat.le_of_ble_eq_true rfl⟩, ⟨Nat.le_of_ble_eq_true rfl, Nat.le_of_ble_eq_true rfl⟩⟩ (Nat.le_of_ble_eq_true rfl) ?_
  show Go l D ad aC (rmk m_M_readPlace) _ m_M_readPlace 22 [some (.ref a0), some (.int v1.1), some (.int v3.1), none, none] [.int v5.1] v5.2 0 0
  refine Go.run (pc' := 24) [.istore_n 3, .aload_n 0] (ls' := [some (.ref a0), some (.int v1.1), some (.int v3.1), some (.int v5.1), none]) (st' := [.ref a0]) (by decide +kernel) rfl rfl ?_
  refine Go.getR fo_M_16 k0 (by decide +kernel) ?_
  refine Go.run (pc' := 28) [.iload_n 1] (ls' := [some (.ref a0), some (.int v1.1), some (.int v3.1), some (.int v5.1), none]) (st' := [.int v1.1, .ref (fld a0 3)]) (by decide +kernel) rfl rfl ?_
  obtain ⟨v7, e8, e⟩ := bd_inv e
  refine Go.callS (M2 := m_M_isDealer) (as := [.ref (fld a0 3), .int v1.1]) (rest := []) (v := some (.int v7)) (h1 := v5.2) (x_M_isDealer hf hI (kf_8_j 3 k0 (by decide) (by decide)) (al_8_j 3 k0 (by decide) (by decide) rfl) e8) ws_M_184 (by decide +kernel) rfl rfl ⟨⟨Nat.le_of_ble_eq_true rfl, Nat.le_of_ble_eq_true rfl⟩, ⟨Nat.le_of_ble_eq_true rfl, Nat.le_of_ble_eq_true rfl⟩⟩ (Nat.le_of_ble_eq_true rfl) ?_
  show Go l D ad aC (rmk m_M_readPlace) _ m_M_readPlace 31 [some (.ref a0), some (.int v1.1), some (.int v3.1), some (.int v5.1), none] [.int v7] v5.2 0 0
  refine Go.if_eq (off := 32) (tgt := 63) (by decide +kernel) (by decide) (fun c9 => ?_) (fun c9 => ?_)
  · replace e := ite_t c9 e
    exact x_M_readPlace_63 hf hI k0 e
  · replace e := ite_f c9 e
    refine Go.run (pc' := 35) [.aload_n 0] (ls' := [some (.ref a0), some (.int v1.1), some (.int v3.1), some (.int v5.1), none]) (st' := [.ref a0]) (by decide +kernel) rfl rfl ?_
    refine Go.getR fo_M_16 k0 (by decide +kernel) ?_
    refine Go.run (pc' := 40) [.iload_n 2, .iload_n 3] (ls' := [some (.ref a0), some (.int v1.1), some (.int v3.1), some (.int v5.1), none]) (st' := [.int v5.1, .int v3.1, .ref (fld a0 3)]) (by decide +kernel) rfl rfl ?_
    obtain ⟨v10, e11, e⟩ := bd_inv e
    refine Go.callS (M2 := m_M_isMetre) (as := [.ref (fld a0 3), .int v3.1, .int v5.1]) (rest := []) (v := some (.int v10)) (h1 := v5.2) (x_M_isMetre hf hI (kf_8_j 3 k0 (by decide) (by decide)) (al_8_j 3 k0 (by decide) (by decide) rfl) e11) ws_M_171 (by decide +kernel) rfl rfl ⟨⟨Nat.le_of_ble_eq_true rfl, Nat.le_of_ble_eq_true rfl⟩, ⟨Nat.le_of_ble_eq_true rfl, Nat.le_of_ble_eq_true rfl⟩⟩ (Nat.le_of_ble_eq_true rfl) ?_
    show Go l D ad aC (rmk m_M_readPlace) _ m_M_readPlace 43 [some (.ref a0), some (.int v1.1), some (.int v3.1), some (.int v5.1), none] [.int v10] v5.2 0 0
    refine Go.if_eq (off := 20) (tgt := 63) (by decide +kernel) (by decide) (fun c12 => ?_) (fun c12 => ?_)
    · replace e := ite_t c12 e
      exact x_M_readPlace_63 hf hI k0 e
    · replace e := ite_f c12 e
      refine Go.run (pc' := 47) [.aload_n 0] (ls' := [some (.ref a0), some (.int v1.1), some (.int v3.1), some (.int v5.1), none]) (st' := [.ref a0]) (by decide +kernel) rfl rfl ?_
      refine Go.getR fo_M_16 k0 (by decide +kernel) ?_
      refine Go.run (pc' := 53) [.iload_n 1, .iload_n 2, .iload_n 3] (ls' := [some (.ref a0), some (.int v1.1), some (.int v3.1), some (.int v5.1), none]) (st' := [.int v5.1, .int v3.1, .int v1.1, .ref (fld a0 3)]) (by decide +kernel) rfl rfl ?_
      obtain ⟨v13, e14, e⟩ := bd_inv e
      refine Go.callS (M2 := m_M_whyNoPlace) (as := [.ref (fld a0 3), .int v1.1, .int v3.1, .int v5.1]) (rest := []) (v := some (.int v13)) (h1 := v5.2) (x_M_whyNoPlace hf hI (kf_8_j 3 k0 (by decide) (by decide)) (al_8_j 3 k0 (by decide) (by decide) rfl) e14) ws_M_119 (by decide +kernel) rfl rfl ⟨⟨Nat.le_of_ble_eq_true rfl, Nat.le_of_ble_eq_true rfl⟩, ⟨Nat.le_of_ble_eq_true rfl, Nat.le_of_ble_eq_true rfl⟩⟩ (Nat.le_of_ble_eq_true rfl) ?_
      show Go l D ad aC (rmk m_M_readPlace) _ m_M_readPlace 56 [some (.ref a0), some (.int v1.1), some (.int v3.1), some (.int v5.1), none] [.int v13] v5.2 0 0
      refine Go.if_ne (off := 7) (tgt := 63) (by decide +kernel) (by decide) (fun c15 => ?_) (fun c15 => ?_)
      · replace e := ite_f c15 e
        exact x_M_readPlace_63 hf hI k0 e
      · replace e := ite_t c15 e
        refine Go.run (pc' := 60) [.iconst 1] (ls' := [some (.ref a0), some (.int v1.1), some (.int v3.1), some (.int v5.1), none]) (st' := [.int (1 : Int32)]) (by decide +kernel) rfl rfl ?_
        refine Go.goto (off := 4) (tgt := 64) (by decide +kernel) (by decide) ?_
        exact x_M_readPlace_64 hf hI k0 e
def f_M_readSwap_60  (a0 : Nat) (x1 : Int32) (x2 : Int32) (s0 : Int32) (h : HP) : Option (Int32 × HP) :=
  (f_M_goes h a0 s0).bind fun v1 =>
  if v1.1 = 0 then
    some ((0 : Int32), v1.2)
  else
    (f_M_goSwap v1.2 (fld a0 3) x1 x2).bind fun v4 =>
    some (v4.1, v4.2)
set_option maxHeartbeats 1000000 in
theorem x_M_readSwap_60 {l : Launch} {D : va_G} {ad : Nat → Nat} {aC : Nat → ClassId} (hf : l.flags = flags0) (hI : Inj ad) {a0 : Nat} {x1 : Int32} {x2 : Int32} {s0 : Int32} {h : HP} {r : Int32 × HP} (k0 : knd a0 = 8) (e : f_M_readSwap_60 a0 x1 x2 s0 h = some r) : Go l D ad aC (rmk m_M_readSwap) (QM D ad aC m_M_readSwap (.inl (some (.int r.1))) r.2) m_M_readSwap 60 [some (.ref a0), some (.int x1), some (.int x2), none] [.int s0] h 0 0 := by
  unfold f_M_readSwap_60 at e
  refine Go.run (pc' := 63) [.istore_n 3, .aload_n 0, .iload_n 3] (ls' := [some (.ref a0), some (.int x1), some (.int x2), some (.int s0)]) (st' := [.int s0, .ref a0]) (by decide +kernel) rfl rfl ?_
  obtain ⟨v1, e2, e⟩ := bd_inv e
  refine Go.callV (M2 := m_M_goes) (a := a0) (as := [.int s0]) (rest := []) (v := some (.int v1.1)) (h1 := v1.2) (x_M_goes hf hI k0 e2) wv_M_174 k0 kc_8 (by decide +kernel) rfl rfl ⟨⟨Nat.le_of_ble_eq_true rfl, Nat.le_of_ble_eq_true rfl⟩, ⟨Nat.le_of_ble_eq_true rfl, Nat.le_of_ble_eq_true rfl⟩⟩ (Nat.le_of_ble_eq_true rfl) ?_
  show Go l D ad aC (rmk m_M_readSwap) _ m_M_readSwap 66 [some (.ref a0), some (.int x1), some (.int x2), some (.int s0)] [.int v1.1] v1.2 0 0
  refine Go.if_eq (off := 15) (tgt := 81) (by decide +kernel) (by decide) (fun c3 => ?_) (fun c3 => ?_)
  · replace e := ite_t c3 e
    refine Go.run (pc' := 82) [.iconst 0] (ls' := [some (.ref a0), some (.int x1), some (.int x2), some (.int s0)]) (st' := [.int (0 : Int32)]) (by decide +kernel) rfl rfl ?_
    obtain rfl := Option.some.inj e
    exact Go.iret rfl (by decide) (by decide) (by decide +kernel)
  · replace e := ite_f c3 e
    refine Go.run (pc' := 70) [.aload_n 0] (ls' := [some (.ref a0), some (.int x1), some (.int x2), some (.int s0)]) (st' := [.ref a0]) (by decide +kernel) rfl rfl ?_
    refine Go.getR fo_M_16 k0 (by decide +kernel) ?_
    refine Go.run (pc' := 75) [.iload_n 1, .iload_n 2] (ls' := [some (.ref a0), some (.int x1), some (.int x2), some (.int s0)]) (st' := [.int x2, .int x1, .ref (fld a0 3)]) (by decide +kernel) rfl rfl ?_
    obtain ⟨v4, e5, e⟩ := bd_inv e
    refine Go.callS (M2 := m_M_goSwap) (as := [.ref (fld a0 3), .int x1, .int x2]) (rest := []) (v := some (.int v4.1)) (h1 := v4.2) (x_M_goSwap hf hI (kf_8_j 3 k0 (by decide) (by decide)) (al_8_j 3 k0 (by decide) (by decide) rfl) e5) ws_M_190 (by decide +kernel) rfl rfl ⟨⟨Nat.le_of_ble_eq_true rfl, Nat.le_of_ble_eq_true rfl⟩, ⟨Nat.le_of_ble_eq_true rfl, Nat.le_of_ble_eq_true rfl⟩⟩ (Nat.le_of_ble_eq_true rfl) ?_
    show Go l D ad aC (rmk m_M_readSwap) _ m_M_readSwap 78 [some (.ref a0), some (.int x1), some (.int x2), some (.int s0)] [.int v4.1] v4.2 0 0
    refine Go.goto (off := 4) (tgt := 82) (by decide +kernel) (by decide) ?_
    obtain rfl := Option.some.inj e
    exact Go.iret rfl (by decide) (by decide) (by decide +kernel)
def f_M_readSwap_59  (a0 : Nat) (x1 : Int32) (x2 : Int32) (h : HP) : Option (Int32 × HP) :=
  f_M_readSwap_60 a0 x1 x2 (0 : Int32) h
set_option maxHeartbeats 1000000 in
theorem x_M_readSwap_59 {l : Launch} {D : va_G} {ad : Nat → Nat} {aC : Nat → ClassId} (hf : l.flags = flags0) (hI : Inj ad) {a0 : Nat} {x1 : Int32} {x2 : Int32} {h : HP} {r : Int32 × HP} (k0 : knd a0 = 8) (e : f_M_readSwap_59 a0 x1 x2 h = some r) : Go l D ad aC (rmk m_M_readSwap) (QM D ad aC m_M_readSwap (.inl (some (.int r.1))) r.2) m_M_readSwap 59 [some (.ref a0), some (.int x1), some (.int x2), none] [] h 0 0 := by
  unfold f_M_readSwap_59 at e
  refine Go.run (pc' := 60) [.iconst 0] (ls' := [some (.ref a0), some (.int x1), some (.int x2), none]) (st' := [.int (0 : Int32)]) (by decide +kernel) rfl rfl ?_
  exact x_M_readSwap_60 hf hI k0 e
def f_M_readSwap (h : HP) (a0 : Nat) : Option (Int32 × HP) :=
  (f_M_digit h a0 (0 : Int32) (9 : Int32)).bind fun v1 =>
  (f_M_digit v1.2 a0 (0 : Int32) (9 : Int32)).bind fun v3 =>
  (f_M_isDealer v3.2 (fld a0 3) v1.1).bind fun v5 =>
  if v5 = 0 then
    f_M_readSwap_59 a0 v1.1 v3.1 v3.2
  else
    (f_M_isDealer v3.2 (fld a0 3) v3.1).bind fun v8 =>
    if v8 = 0 then
      f_M_readSwap_59 a0 v1.1 v3.1 v3.2
    else
      if v1.1 = v3.1 then
        f_M_readSwap_59 a0 v1.1 v3.1 v3.2
      else
        (f_M_whyNoSwap v3.2 (fld a0 3) v1.1 v3.1).bind fun v12 =>
        if v12.1 = 0 then
          f_M_readSwap_60 a0 v1.1 v3.1 (1 : Int32) v12.2
        else
          f_M_readSwap_59 a0 v1.1 v3.1 v12.2
set_option maxHeartbeats 1000000 in
theorem x_M_readSwap {l : Launch} {D : va_G} {ad : Nat → Nat} {aC : Nat → ClassId} (hf : l.flags = flags0) (hI : Inj ad) {h : HP} {a0 : Nat} {r : Int32 × HP} (k0 : knd a0 = 8) (e : f_M_readSwap h a0 = some r) : CT l D ad aC m_M_readSwap [.ref a0] h (.inl (some (.int r.1))) r.2 := by
  refine CT.ofGo (by decide +kernel) rfl (Nat.le_of_ble_eq_true rfl) ?_
  unfold f_M_readSwap at e
  show Go l D ad aC (rmk m_M_readSwap) _ m_M_readSwap 0 [some (.ref a0), none, none, none] [] h 0 0
  refine Go.run (pc' := 4) [.aload_n 0, .iconst 0, .bipush (9)] (ls' := [some (.ref a0), none, none, none]) (st' := [.int (9 : Int32), .int (0 : Int32), .ref a0]) (by decide +kernel) rfl rfl ?_
  obtain ⟨v1, e2, e⟩ := bd_inv e
  refine Go.callV (M2 := m_M_digit) (a := a0) (as := [.int (0 : Int32), .int (9 : Int32)]) (rest := []) (v := some (.int v1.1)) (h1 := v1.2) (x_M_digit hf hI k0 e2) wv_M_161 k0 kc_8 (by decide +kernel) rfl rfl ⟨⟨Nat.le_of_ble_eq_true rfl, Nat.le_of_ble_eq_true rfl⟩, ⟨Nat.le_of_ble_eq_true rfl, Nat.le_of_ble_eq_true rfl⟩⟩ (Nat.le_of_ble_eq_true rfl) ?_
  show Go l D ad aC (rmk m_M_readSwap) _ m_M_readSwap 7 [some (.ref a0), none, none, none] [.int v1.1] v1.2 0 0
  refine Go.run (pc' := 12) [.istore_n 1, .aload_n 0, .iconst 0, .bipush (9)] (ls' := [some (.ref a0), some (.int v1.1), none, none]) (st' := [.int (9 : Int32), .int (0 : Int32), .ref a0]) (by decide +kernel) rfl rfl ?_
  obtain ⟨v3, e4, e⟩ := bd_inv e
  refine Go.callV (M2 := m_M_digit) (a := a0) (as := [.int (0 : Int32), .int (9 : Int32)]) (rest := []) (v := some (.int v3.1)) (h1 := v3.2) (x_M_digit hf hI k0 e4) wv_M_161 k0 kc_8 (by decide +kernel) rfl rfl ⟨⟨Nat.le_of_ble_eq_true rfl, Nat.le_of_ble_eq_true rfl⟩, ⟨Nat.le_of_ble_eq_true rfl, Nat.le_of_ble_eq_true rfl⟩⟩ (Nat.le_of_ble_eq_true rfl) ?_
  show Go l D ad aC (rmk m_M_readSwap) _ m_M_readSwap 15 [some (.ref a0), some (.int v1.1), none, none] [.int v3.1] v3.2 0 0
  refine Go.run (pc' := 17) [.istore_n 2, .aload_n 0] (ls' := [some (.ref a0), some (.int v1.1), some (.int v3.1), none]) (st' := [.ref a0]) (by decide +kernel) rfl rfl ?_
  refine Go.getR fo_M_16 k0 (by decide +kernel) ?_
  refine Go.run (pc' := 21) [.iload_n 1] (ls' := [some (.ref a0), some (.int v1.1), some (.int v3.1), none]) (st' := [.int v1.1, .ref (fld a0 3)]) (by decide +kernel) rfl rfl ?_
  obtain ⟨v5, e6, e⟩ := bd_inv e
  refine Go.callS (M2 := m_M_isDealer) (as := [.ref (fld a0 3), .int v1.1]) (rest := []) (v := some (.int v5)) (h1 := v3.2) (x_M_isDealer hf hI (kf_8_j 3 k0 (by decide) (by decide)) (al_8_j 3 k0 (by decide) (by decide) rfl) e6) ws_M_184 (by decide +kernel) rfl rfl ⟨⟨Nat.le_of_ble_eq_true rfl, Nat.le_of_ble_eq_true rfl⟩, ⟨Nat.le_of_ble_eq_true rfl, Nat.le_of_ble_eq_true rfl⟩⟩ (Nat.le_of_ble_eq_true rfl) ?_
  show Go l D ad aC (rmk m_M_readSwap) _ m_M_readSwap 24 [some (.ref a0), some (.int v1.1), some (.int v3.1), none] [.int v5] v3.2 0 0
  refine Go.if_eq (off := 35) (tgt := 59) (by decide +kernel) (by decide) (fun c7 => ?_) (fun c7 => ?_)
  · replace e := ite_t c7 e
    exact x_M_readSwap_59 hf hI k0 e
  · replace e := ite_f c7 e
    refine Go.run (pc' := 28) [.aload_n 0] (ls' := [some (.ref a0), some (.int v1.1), some (.int v3.1), none]) (st' := [.ref a0]) (by decide +kernel) rfl rfl ?_
    refine Go.getR fo_M_16 k0 (by decide +kernel) ?_
    refine Go.run (pc' := 32) [.iload_n 2] (ls' := [some (.ref a0), some (.int v1.1), some (.int v3.1), none]) (st' := [.int v3.1, .ref (fld a0 3)]) (by decide +kernel) rfl rfl ?_
    obtain ⟨v8, e9, e⟩ := bd_inv e
    refine Go.callS (M2 := m_M_isDealer) (as := [.ref (fld a0 3), .int v3.1]) (rest := []) (v := some (.int v8)) (h1 := v3.2) (x_M_isDealer hf hI (kf_8_j 3 k0 (by decide) (by decide)) (al_8_j 3 k0 (by decide) (by decide) rfl) e9) ws_M_184 (by decide +kernel) rfl rfl ⟨⟨Nat.le_of_ble_eq_true rfl, Nat.le_of_ble_eq_true rfl⟩, ⟨Nat.le_of_ble_eq_true rfl, Nat.le_of_ble_eq_true rfl⟩⟩ (Nat.le_of_ble_eq_true rfl) ?_
    show Go l D ad aC (rmk m_M_readSwap) _ m_M_readSwap 35 [some (.ref a0), some (.int v1.1), some (.int v3.1), none] [.int v8] v3.2 0 0
    refine Go.if_eq (off := 24) (tgt := 59) (by decide +kernel) (by decide) (fun c10 => ?_) (fun c10 => ?_)
    · replace e := ite_t c10 e
      exact x_M_readSwap_59 hf hI k0 e
    · replace e := ite_f c10 e
      refine Go.run (pc' := 40) [.iload_n 1, .iload_n 2] (ls' := [some (.ref a0), some (.int v1.1), some (.int v3.1), none]) (st' := [.int v3.1, .int v1.1]) (by decide +kernel) rfl rfl ?_
      refine Go.ic_eq (off := 19) (tgt := 59) (by decide +kernel) (by decide) (fun c11 => ?_) (fun c11 => ?_)
      · replace e := ite_t c11 e
        exact x_M_readSwap_59 hf hI k0 e
      · replace e := ite_f c11 e
        refine Go.run (pc' := 44) [.aload_n 0] (ls' := [some (.ref a0), some (.int v1.1), some (.int v3.1), none]) (st' := [.ref a0]) (by decide +kernel) rfl rfl ?_
        refine Go.getR fo_M_16 k0 (by decide +kernel) ?_
        refine Go.run (pc' := 49) [.iload_n 1, .iload_n 2] (ls' := [some (.ref a0), some (.int v1.1), some (.int v3.1), none]) (st' := [.int v3.1, .int v1.1, .ref (fld a0 3)]) (by decide +kernel) rfl rfl ?_
        obtain ⟨v12, e13, e⟩ := bd_inv e
        refine Go.callS (M2 := m_M_whyNoSwap) (as := [.ref (fld a0 3), .int v1.1, .int v3.1]) (rest := []) (v := some (.int v12.1)) (h1 := v12.2) (x_M_whyNoSwap hf hI (kf_8_j 3 k0 (by decide) (by decide)) (al_8_j 3 k0 (by decide) (by decide) rfl) e13) ws_M_127 (by decide +kernel) rfl rfl ⟨⟨Nat.le_of_ble_eq_true rfl, Nat.le_of_ble_eq_true rfl⟩, ⟨Nat.le_of_ble_eq_true rfl, Nat.le_of_ble_eq_true rfl⟩⟩ (Nat.le_of_ble_eq_true rfl) ?_
        show Go l D ad aC (rmk m_M_readSwap) _ m_M_readSwap 52 [some (.ref a0), some (.int v1.1), some (.int v3.1), none] [.int v12.1] v12.2 0 0
        refine Go.if_ne (off := 7) (tgt := 59) (by decide +kernel) (by decide) (fun c14 => ?_) (fun c14 => ?_)
        · replace e := ite_f c14 e
          exact x_M_readSwap_59 hf hI k0 e
        · replace e := ite_t c14 e
          refine Go.run (pc' := 56) [.iconst 1] (ls' := [some (.ref a0), some (.int v1.1), some (.int v3.1), none]) (st' := [.int (1 : Int32)]) (by decide +kernel) rfl rfl ?_
          refine Go.goto (off := 4) (tgt := 60) (by decide +kernel) (by decide) ?_
          exact x_M_readSwap_60 hf hI k0 e
def f_M_readRest_117  (a0 : Nat) (x2 : Int32) (b0 : Nat) (s1 : Int32) (h : HP) : Option (Int32 × HP) :=
  (f_M_goes h b0 s1).bind fun v1 =>
  if v1.1 = 0 then
    some ((0 : Int32), v1.2)
  else
    (f_M_goLeave v1.2 (fld a0 3) x2).bind fun v4 =>
    some (v4.1, v4.2)
set_option maxHeartbeats 1000000 in
theorem x_M_readRest_117 {l : Launch} {D : va_G} {ad : Nat → Nat} {aC : Nat → ClassId} (hf : l.flags = flags0) (hI : Inj ad) {a0 : Nat} {x2 : Int32} {b0 : Nat} {s1 : Int32} {h : HP} {r : Int32 × HP} (k0 : knd a0 = 8) (kb0 : knd b0 = 8) (e : f_M_readRest_117 a0 x2 b0 s1 h = some r) : Go l D ad aC (rmk m_M_readRest) (QM D ad aC m_M_readRest (.inl (some (.int r.1))) r.2) m_M_readRest 117 [some (.ref a0), none, some (.int x2), none] [.int s1, .ref b0] h 0 0 := by
  unfold f_M_readRest_117 at e
  obtain ⟨v1, e2, e⟩ := bd_inv e
  refine Go.callV (M2 := m_M_goes) (a := b0) (as := [.int s1]) (rest := []) (v := some (.int v1.1)) (h1 := v1.2) (x_M_goes hf hI kb0 e2) wv_M_174 kb0 kc_8 (by decide +kernel) rfl rfl ⟨⟨Nat.le_of_ble_eq_true rfl, Nat.le_of_ble_eq_true rfl⟩, ⟨Nat.le_of_ble_eq_true rfl, Nat.le_of_ble_eq_true rfl⟩⟩ (Nat.le_of_ble_eq_true rfl) ?_
  show Go l D ad aC (rmk m_M_readRest) _ m_M_readRest 120 [some (.ref a0), none, some (.int x2), none] [.int v1.1] v1.2 0 0
  refine Go.if_eq (off := 14) (tgt := 134) (by decide +kernel) (by decide) (fun c3 => ?_) (fun c3 => ?_)
  · replace e := ite_t c3 e
    refine Go.run (pc' := 135) [.iconst 0] (ls' := [some (.ref a0), none, some (.int x2), none]) (st' := [.int (0 : Int32)]) (by decide +kernel) rfl rfl ?_
    obtain rfl := Option.some.inj e
    exact Go.iret rfl (by decide) (by decide) (by decide +kernel)
  · replace e := ite_f c3 e
    refine Go.run (pc' := 124) [.aload_n 0] (ls' := [some (.ref a0), none, some (.int x2), none]) (st' := [.ref a0]) (by decide +kernel) rfl rfl ?_
    refine Go.getR fo_M_16 k0 (by decide +kernel) ?_
    refine Go.run (pc' := 128) [.iload_n 2] (ls' := [some (.ref a0), none, some (.int x2), none]) (st' := [.int x2, .ref (fld a0 3)]) (by decide +kernel) rfl rfl ?_
    obtain ⟨v4, e5, e⟩ := bd_inv e
    refine Go.callS (M2 := m_M_goLeave) (as := [.ref (fld a0 3), .int x2]) (rest := []) (v := some (.int v4.1)) (h1 := v4.2) (x_M_goLeave hf hI (kf_8_j 3 k0 (by decide) (by decide)) (al_8_j 3 k0 (by decide) (by decide) rfl) e5) ws_M_196 (by decide +kernel) rfl rfl ⟨⟨Nat.le_of_ble_eq_true rfl, Nat.le_of_ble_eq_true rfl⟩, ⟨Nat.le_of_ble_eq_true rfl, Nat.le_of_ble_eq_true rfl⟩⟩ (Nat.le_of_ble_eq_true rfl) ?_
    show Go l D ad aC (rmk m_M_readRest) _ m_M_readRest 131 [some (.ref a0), none, some (.int x2), none] [.int v4.1] v4.2 0 0
    refine Go.goto (off := 4) (tgt := 135) (by decide +kernel) (by decide) ?_
    obtain rfl := Option.some.inj e
    exact Go.iret rfl (by decide) (by decide) (by decide +kernel)
def f_M_readRest_116  (a0 : Nat) (x2 : Int32) (b0 : Nat) (h : HP) : Option (Int32 × HP) :=
  f_M_readRest_117 a0 x2 b0 (0 : Int32) h
set_option maxHeartbeats 1000000 in
theorem x_M_readRest_116 {l : Launch} {D : va_G} {ad : Nat → Nat} {aC : Nat → ClassId} (hf : l.flags = flags0) (hI : Inj ad) {a0 : Nat} {x2 : Int32} {b0 : Nat} {h : HP} {r : Int32 × HP} (k0 : knd a0 = 8) (kb0 : knd b0 = 8) (e : f_M_readRest_116 a0 x2 b0 h = some r) : Go l D ad aC (rmk m_M_readRest) (QM D ad aC m_M_readRest (.inl (some (.int r.1))) r.2) m_M_readRest 116 [some (.ref a0), none, some (.int x2), none] [.ref b0] h 0 0 := by
  unfold f_M_readRest_116 at e
  refine Go.run (pc' := 117) [.iconst 0] (ls' := [some (.ref a0), none, some (.int x2), none]) (st' := [.int (0 : Int32), .ref b0]) (by decide +kernel) rfl rfl ?_
  exact x_M_readRest_117 hf hI k0 kb0 e
def f_M_readRest_62  (a0 : Nat) (x2 : Int32) (b0 : Nat) (s1 : Int32) (h : HP) : Option (Int32 × HP) :=
  (f_M_goes h b0 s1).bind fun v1 =>
  if v1.1 = 0 then
    some ((0 : Int32), v1.2)
  else
    (f_M_addWall v1.2 (fld a0 3) x2).bind fun v4 =>
    some (v4.1, v4.2)
set_option maxHeartbeats 1000000 in
theorem x_M_readRest_62 {l : Launch} {D : va_G} {ad : Nat → Nat} {aC : Nat → ClassId} (hf : l.flags = flags0) (hI : Inj ad) {a0 : Nat} {x2 : Int32} {b0 : Nat} {s1 : Int32} {h : HP} {r : Int32 × HP} (k0 : knd a0 = 8) (kb0 : knd b0 = 8) (e : f_M_readRest_62 a0 x2 b0 s1 h = some r) : Go l D ad aC (rmk m_M_readRest) (QM D ad aC m_M_readRest (.inl (some (.int r.1))) r.2) m_M_readRest 62 [some (.ref a0), none, some (.int x2), none] [.int s1, .ref b0] h 0 0 := by
  unfold f_M_readRest_62 at e
  obtain ⟨v1, e2, e⟩ := bd_inv e
  refine Go.callV (M2 := m_M_goes) (a := b0) (as := [.int s1]) (rest := []) (v := some (.int v1.1)) (h1 := v1.2) (x_M_goes hf hI kb0 e2) wv_M_174 kb0 kc_8 (by decide +kernel) rfl rfl ⟨⟨Nat.le_of_ble_eq_true rfl, Nat.le_of_ble_eq_true rfl⟩, ⟨Nat.le_of_ble_eq_true rfl, Nat.le_of_ble_eq_true rfl⟩⟩ (Nat.le_of_ble_eq_true rfl) ?_
  show Go l D ad aC (rmk m_M_readRest) _ m_M_readRest 65 [some (.ref a0), none, some (.int x2), none] [.int v1.1] v1.2 0 0
  refine Go.if_eq (off := 14) (tgt := 79) (by decide +kernel) (by decide) (fun c3 => ?_) (fun c3 => ?_)
  · replace e := ite_t c3 e
    refine Go.run (pc' := 80) [.iconst 0] (ls' := [some (.ref a0), none, some (.int x2), none]) (st' := [.int (0 : Int32)]) (by decide +kernel) rfl rfl ?_
    obtain rfl := Option.some.inj e
    exact Go.iret rfl (by decide) (by decide) (by decide +kernel)
  · replace e := ite_f c3 e
    refine Go.run (pc' := 69) [.aload_n 0] (ls' := [some (.ref a0), none, some (.int x2), none]) (st' := [.ref a0]) (by decide +kernel) rfl rfl ?_
    refine Go.getR fo_M_16 k0 (by decide +kernel) ?_
    refine Go.run (pc' := 73) [.iload_n 2] (ls' := [some (.ref a0), none, some (.int x2), none]) (st' := [.int x2, .ref (fld a0 3)]) (by decide +kernel) rfl rfl ?_
    obtain ⟨v4, e5, e⟩ := bd_inv e
    refine Go.callS (M2 := m_M_addWall) (as := [.ref (fld a0 3), .int x2]) (rest := []) (v := some (.int v4.1)) (h1 := v4.2) (x_M_addWall hf hI (kf_8_j 3 k0 (by decide) (by decide)) (al_8_j 3 k0 (by decide) (by decide) rfl) e5) ws_M_193 (by decide +kernel) rfl rfl ⟨⟨Nat.le_of_ble_eq_true rfl, Nat.le_of_ble_eq_true rfl⟩, ⟨Nat.le_of_ble_eq_true rfl, Nat.le_of_ble_eq_true rfl⟩⟩ (Nat.le_of_ble_eq_true rfl) ?_
    show Go l D ad aC (rmk m_M_readRest) _ m_M_readRest 76 [some (.ref a0), none, some (.int x2), none] [.int v4.1] v4.2 0 0
    refine Go.goto (off := 4) (tgt := 80) (by decide +kernel) (by decide) ?_
    obtain rfl := Option.some.inj e
    exact Go.iret rfl (by decide) (by decide) (by decide +kernel)
def f_M_readRest (h : HP) (a0 : Nat) (x1 : Int32) : Option (Int32 × HP) :=
  if x1 = 108 then
    (f_M_digit h a0 (0 : Int32) (9 : Int32)).bind fun v2 =>
    (f_M_isDealer v2.2 (fld a0 3) v2.1).bind fun v4 =>
    if v4 = 0 then
      f_M_readRest_116 a0 v2.1 a0 v2.2
    else
      (f_M_stands v2.2 (fld a0 3) v2.1).bind fun v7 =>
      if v7 = 0 then
        f_M_readRest_116 a0 v2.1 a0 v2.2
      else
        f_M_readRest_117 a0 v2.1 a0 (1 : Int32) v2.2
  else
    if x1 = 110 then
      (f_M_two h a0 (1 : Int32) (60 : Int32)).bind fun v11 =>
      if (v11.2 a0 14) = 0 then
        some ((0 : Int32), v11.2)
      else
        (f_M_goDays v11.2 a0 (fld a0 3) v11.1).bind fun v14 =>
        some (v14.1, v14.2)
    else
      if x1 = 119 then
        (f_M_two h a0 (4 : Int32) (30 : Int32)).bind fun v17 =>
        if ib (184 : Int32) 196 = true then
        if (4 : Int32) ≤ (v17.2 (fld a0 3) (184 : Int32).toNatClampNeg) then
          f_M_readRest_62 a0 v17.1 a0 (0 : Int32) v17.2
        else
          f_M_readRest_62 a0 v17.1 a0 (1 : Int32) v17.2
        else none
      else
        (f_M_digit h a0 (0 : Int32) (5 : Int32)).bind fun v21 =>
        (f_M_two v21.2 a0 (0 : Int32) (50 : Int32)).bind fun v23 =>
        (f_M_isSetting v23.2 v21.1 v23.1).bind fun v25 =>
        (f_M_goes v23.2 a0 v25).bind fun v27 =>
        if v27.1 = 0 then
          some ((0 : Int32), v27.2)
        else
          (f_M_put v27.2 (fld a0 3) ((190 : Int32) + v21.1) v23.1).bind fun v30 =>
          some (v30.1, v30.2)
set_option maxHeartbeats 1000000 in
theorem x_M_readRest {l : Launch} {D : va_G} {ad : Nat → Nat} {aC : Nat → ClassId} (hf : l.flags = flags0) (hI : Inj ad) {h : HP} {a0 : Nat} {x1 : Int32} {r : Int32 × HP} (k0 : knd a0 = 8) (e : f_M_readRest h a0 x1 = some r) : CT l D ad aC m_M_readRest [.ref a0, .int x1] h (.inl (some (.int r.1))) r.2 := by
  refine CT.ofGo (by decide +kernel) rfl (Nat.le_of_ble_eq_true rfl) ?_
  unfold f_M_readRest at e
  show Go l D ad aC (rmk m_M_readRest) _ m_M_readRest 0 [some (.ref a0), some (.int x1), none, none] [] h 0 0
  refine Go.run (pc' := 1) [.iload_n 1] (ls' := [some (.ref a0), some (.int x1), none, none]) (st' := [.int x1]) (by decide +kernel) rfl rfl ?_
  rcases Decidable.em (x1 = 108) with c1 | c1
  · replace e := ite_t c1 e
    refine Go.lks (dflt := 164) (ps := #[(108, 80), (110, 135), (119, 35)]) (len := 35) (off := 80) (tgt := 81) (by decide +kernel) (by decide) (by rw [c1]; decide) (by decide) ?_
    refine Go.run (pc' := 85) [.aload_n 0, .iconst 0, .bipush (9)] (ls' := [some (.ref a0), some (.int x1), none, none]) (st' := [.int (9 : Int32), .int (0 : Int32), .ref a0]) (by decide +kernel) rfl rfl ?_
    obtain ⟨v2, e3, e⟩ := bd_inv e
    refine Go.callV (M2 := m_M_digit) (a := a0) (as := [.int (0 : Int32), .int (9 : Int32)]) (rest := []) (v := some (.int v2.1)) (h1 := v2.2) (x_M_digit hf hI k0 e3) wv_M_161 k0 kc_8 (by decide +kernel) rfl rfl ⟨⟨Nat.le_of_ble_eq_true rfl, Nat.le_of_ble_eq_true rfl⟩, ⟨Nat.le_of_ble_eq_true rfl, Nat.le_of_ble_eq_true rfl⟩⟩ (Nat.le_of_ble_eq_true rfl) ?_
    show Go l D ad aC (rmk m_M_readRest) _ m_M_readRest 88 [some (.ref a0), some (.int x1), none, none] [.int v2.1] v2.2 0 0
    refine Go.run (pc' := 91) [.istore_n 2, .aload_n 0, .aload_n 0] (ls' := [some (.ref a0), some (.int x1), some (.int v2.1), none]) (st' := [.ref a0, .ref a0]) (by decide +kernel) rfl rfl ?_
    refine Go.getR fo_M_16 k0 (by decide +kernel) ?_
    refine Go.run (pc' := 95) [.iload_n 2] (ls' := [some (.ref a0), some (.int x1), some (.int v2.1), none]) (st' := [.int v2.1, .ref (fld a0 3), .ref a0]) (by decide +kernel) rfl rfl ?_
    obtain ⟨v4, e5, e⟩ := bd_inv e
    refine Go.callS (M2 := m_M_isDealer) (as := [.ref (fld a0 3), .int v2.1]) (rest := [.ref a0]) (v := some (.int v4)) (h1 := v2.2) (x_M_isDealer hf hI (kf_8_j 3 k0 (by decide) (by decide)) (al_8_j 3 k0 (by decide) (by decide) rfl) e5) ws_M_184 (by decide +kernel) rfl rfl ⟨⟨Nat.le_of_ble_eq_true rfl, Nat.le_of_ble_eq_true rfl⟩, ⟨Nat.le_of_ble_eq_true rfl, Nat.le_of_ble_eq_true rfl⟩⟩ (Nat.le_of_ble_eq_true rfl) ?_
    show Go l D ad aC (rmk m_M_readRest) _ m_M_readRest 98 [some (.ref a0), some (.int x1), some (.int v2.1), none] [.int v4, .ref a0] v2.2 0 0
    refine Go.if_eq (off := 18) (tgt := 116) (by decide +kernel) (by decide) (fun c6 => ?_) (fun c6 => ?_)
    · replace e := ite_t c6 e
      refine Go.wk' (wks (wkn (wks (wks wk0)))) ?_
      exact x_M_readRest_116 hf hI k0 k0 e
    · replace e := ite_f c6 e
      refine Go.run (pc' := 102) [.aload_n 0] (ls' := [some (.ref a0), some (.int x1), some (.int v2.1), none]) (st' := [.ref a0, .ref a0]) (by decide +kernel) rfl rfl ?_
      refine Go.getR fo_M_16 k0 (by decide +kernel) ?_
      refine Go.run (pc' := 106) [.iload_n 2] (ls' := [some (.ref a0), some (.int x1), some (.int v2.1), none]) (st' := [.int v2.1, .ref (fld a0 3), .ref a0]) (by decide +kernel) rfl rfl ?_
      obtain ⟨v7, e8, e⟩ := bd_inv e
      refine Go.callS (M2 := m_M_stands) (as := [.ref (fld a0 3), .int v2.1]) (rest := [.ref a0]) (v := some (.int v7)) (h1 := v2.2) (x_M_stands hf hI (kf_8_j 3 k0 (by decide) (by decide)) (al_8_j 3 k0 (by decide) (by decide) rfl) e8) ws_M_89 (by decide +kernel) rfl rfl ⟨⟨Nat.le_of_ble_eq_true rfl, Nat.le_of_ble_eq_true rfl⟩, ⟨Nat.le_of_ble_eq_true rfl, Nat.le_of_ble_eq_true rfl⟩⟩ (Nat.le_of_ble_eq_true rfl) ?_
      show Go l D ad aC (rmk m_M_readRest) _ m_M_readRest 109 [some (.ref a0), some (.int x1), some (.int v2.1), none] [.int v7, .ref a0] v2.2 0 0
      refine Go.if_eq (off := 7) (tgt := 116) (by decide +kernel) (by decide) (fun c9 => ?_) (fun c9 => ?_)
      · replace e := ite_t c9 e
        refine Go.wk' (wks (wkn (wks (wks wk0)))) ?_
        exact x_M_readRest_116 hf hI k0 k0 e
      · replace e := ite_f c9 e
        refine Go.run (pc' := 113) [.iconst 1] (ls' := [some (.ref a0), some (.int x1), some (.int v2.1), none]) (st' := [.int (1 : Int32), .ref a0]) (by decide +kernel) rfl rfl ?_
        refine Go.goto (off := 4) (tgt := 117) (by decide +kernel) (by decide) ?_
        refine Go.wk' (wks (wkn (wks (wks wk0)))) ?_
        exact x_M_readRest_117 hf hI k0 k0 e
  replace e := ite_f c1 e
  rcases Decidable.em (x1 = 110) with c10 | c10
  · replace e := ite_t c10 e
    refine Go.lks (dflt := 164) (ps := #[(108, 80), (110, 135), (119, 35)]) (len := 35) (off := 135) (tgt := 136) (by decide +kernel) (by decide) (by rw [c10]; decide) (by decide) ?_
    refine Go.run (pc' := 140) [.aload_n 0, .iconst 1, .bipush (60)] (ls' := [some (.ref a0), some (.int x1), none, none]) (st' := [.int (60 : Int32), .int (1 : Int32), .ref a0]) (by decide +kernel) rfl rfl ?_
    obtain ⟨v11, e12, e⟩ := bd_inv e
    refine Go.callV (M2 := m_M_two) (a := a0) (as := [.int (1 : Int32), .int (60 : Int32)]) (rest := []) (v := some (.int v11.1)) (h1 := v11.2) (x_M_two hf hI k0 e12) wv_M_168 k0 kc_8 (by decide +kernel) rfl rfl ⟨⟨Nat.le_of_ble_eq_true rfl, Nat.le_of_ble_eq_true rfl⟩, ⟨Nat.le_of_ble_eq_true rfl, Nat.le_of_ble_eq_true rfl⟩⟩ (Nat.le_of_ble_eq_true rfl) ?_
    show Go l D ad aC (rmk m_M_readRest) _ m_M_readRest 143 [some (.ref a0), some (.int x1), none, none] [.int v11.1] v11.2 0 0
    refine Go.run (pc' := 145) [.istore_n 2, .aload_n 0] (ls' := [some (.ref a0), some (.int x1), some (.int v11.1), none]) (st' := [.ref a0]) (by decide +kernel) rfl rfl ?_
    refine Go.getI fo_M_149 k0 (by decide +kernel) ?_
    refine Go.if_eq (off := 15) (tgt := 163) (by decide +kernel) (by decide) (fun c13 => ?_) (fun c13 => ?_)
    · replace e := ite_t c13 e
      refine Go.run (pc' := 164) [.iconst 0] (ls' := [some (.ref a0), some (.int x1), some (.int v11.1), none]) (st' := [.int (0 : Int32)]) (by decide +kernel) rfl rfl ?_
      obtain rfl := Option.some.inj e
      exact Go.iret rfl (by decide) (by decide) (by decide +kernel)
    · replace e := ite_f c13 e
      refine Go.run (pc' := 153) [.aload_n 0, .aload_n 0] (ls' := [some (.ref a0), some (.int x1), some (.int v11.1), none]) (st' := [.ref a0, .ref a0]) (by decide +kernel) rfl rfl ?_
      refine Go.getR fo_M_16 k0 (by decide +kernel) ?_
      refine Go.run (pc' := 157) [.iload_n 2] (ls' := [some (.ref a0), some (.int x1), some (.int v11.1), none]) (st' := [.int v11.1, .ref (fld a0 3), .ref a0]) (by decide +kernel) rfl rfl ?_
      obtain ⟨v14, e15, e⟩ := bd_inv e
      refine Go.callV (M2 := m_M_goDays) (a := a0) (as := [.ref (fld a0 3), .int v11.1]) (rest := []) (v := some (.int v14.1)) (h1 := v14.2) (x_M_goDays hf hI k0 (kf_8_j 3 k0 (by decide) (by decide)) (al_8_j 3 k0 (by decide) (by decide) rfl) e15) wv_M_199 k0 kc_8 (by decide +kernel) rfl rfl ⟨⟨Nat.le_of_ble_eq_true rfl, Nat.le_of_ble_eq_true rfl⟩, ⟨Nat.le_of_ble_eq_true rfl, Nat.le_of_ble_eq_true rfl⟩⟩ (Nat.le_of_ble_eq_true rfl) ?_
      show Go l D ad aC (rmk m_M_readRest) _ m_M_readRest 160 [some (.ref a0), some (.int x1), some (.int v11.1), none] [.int v14.1] v14.2 0 0
      refine Go.goto (off := 4) (tgt := 164) (by decide +kernel) (by decide) ?_
      obtain rfl := Option.some.inj e
      exact Go.iret rfl (by decide) (by decide) (by decide +kernel)
  replace e := ite_f c10 e
  rcases Decidable.em (x1 = 119) with c16 | c16
  · replace e := ite_t c16 e
    refine Go.lks (dflt := 164) (ps := #[(108, 80), (110, 135), (119, 35)]) (len := 35) (off := 35) (tgt := 36) (by decide +kernel) (by decide) (by rw [c16]; decide) (by decide) ?_
    refine Go.run (pc' := 40) [.aload_n 0, .iconst 4, .bipush (30)] (ls' := [some (.ref a0), some (.int x1), none, none]) (st' := [.int (30 : Int32), .int (4 : Int32), .ref a0]) (by decide +kernel) rfl rfl ?_
    obtain ⟨v17, e18, e⟩ := bd_inv e
    refine Go.callV (M2 := m_M_two) (a := a0) (as := [.int (4 : Int32), .int (30 : Int32)]) (rest := []) (v := some (.int v17.1)) (h1 := v17.2) (x_M_two hf hI k0 e18) wv_M_168 k0 kc_8 (by decide +kernel) rfl rfl ⟨⟨Nat.le_of_ble_eq_true rfl, Nat.le_of_ble_eq_true rfl⟩, ⟨Nat.le_of_ble_eq_true rfl, Nat.le_of_ble_eq_true rfl⟩⟩ (Nat.le_of_ble_eq_true rfl) ?_
    show Go l D ad aC (rmk m_M_readRest) _ m_M_readRest 43 [some (.ref a0), some (.int x1), none, none] [.int v17.1] v17.2 0 0
    refine Go.run (pc' := 46) [.istore_n 2, .aload_n 0, .aload_n 0] (ls' := [some (.ref a0), some (.int x1), some (.int v17.1), none]) (st' := [.ref a0, .ref a0]) (by decide +kernel) rfl rfl ?_
    refine Go.getR fo_M_16 k0 (by decide +kernel) ?_
    refine Go.run (pc' := 52) [.sipush (184)] (ls' := [some (.ref a0), some (.int x1), some (.int v17.1), none]) (st' := [.int (184 : Int32), .ref (fld a0 3), .ref a0]) (by decide +kernel) rfl rfl ?_
    obtain ⟨g19, e⟩ := gd_inv e
    refine Go.iald (kf_8_j 3 k0 (by decide) (by decide)) (al_8_j 3 k0 (by decide) (by decide) rfl) g19 (by decide +kernel) ?_
    refine Go.run (pc' := 54) [.iconst 4] (ls' := [some (.ref a0), some (.int x1), some (.int v17.1), none]) (st' := [.int (4 : Int32), .int (v17.2 (fld a0 3) (184 : Int32).toNatClampNeg), .ref a0]) (by decide +kernel) rfl rfl ?_
    refine Go.ic_ge (off := 7) (tgt := 61) (by decide +kernel) (by decide) (fun c20 => ?_) (fun c20 => ?_)
    · replace e := ite_t c20 e
      refine Go.run (pc' := 62) [.iconst 0] (ls' := [some (.ref a0), some (.int x1), some (.int v17.1), none]) (st' := [.int (0 : Int32), .ref a0]) (by decide +kernel) rfl rfl ?_
      refine Go.wk' (wks (wkn (wks (wks wk0)))) ?_
      exact x_M_readRest_62 hf hI k0 k0 e
    · replace e := ite_f c20 e
      refine Go.run (pc' := 58) [.iconst 1] (ls' := [some (.ref a0), some (.int x1), some (.int v17.1), none]) (st' := [.int (1 : Int32), .ref a0]) (by decide +kernel) rfl rfl ?_
      refine Go.goto (off := 4) (tgt := 62) (by decide +kernel) (by decide) ?_
      refine Go.wk' (wks (wkn (wks (wks wk0)))) ?_
      exact x_M_readRest_62 hf hI k0 k0 e
  replace e := ite_f c16 e
  refine Go.lks (dflt := 164) (ps := #[(108, 80), (110, 135), (119, 35)]) (len := 35) (off := 164) (tgt := 165) (by decide +kernel) (by decide) (by simp only []; rw [lv_osw c1 (a := 108) rfl, lv_osw c10 (a := 110) rfl, lv_osw c16 (a := 119) rfl]; rfl) (by decide) ?_
  refine Go.run (pc' := 168) [.aload_n 0, .iconst 0, .iconst 5] (ls' := [some (.ref a0), some (.int x1), none, none]) (st' := [.int (5 : Int32), .int (0 : Int32), .ref a0]) (by decide +kernel) rfl rfl ?_
  obtain ⟨v21, e22, e⟩ := bd_inv e
  refine Go.callV (M2 := m_M_digit) (a := a0) (as := [.int (0 : Int32), .int (5 : Int32)]) (rest := []) (v := some (.int v21.1)) (h1 := v21.2) (x_M_digit hf hI k0 e22) wv_M_161 k0 kc_8 (by decide +kernel) rfl rfl ⟨⟨Nat.le_of_ble_eq_true rfl, Nat.le_of_ble_eq_true rfl⟩, ⟨Nat.le_of_ble_eq_true rfl, Nat.le_of_ble_eq_true rfl⟩⟩ (Nat.le_of_ble_eq_true rfl) ?_
  show Go l D ad aC (rmk m_M_readRest) _ m_M_readRest 171 [some (.ref a0), some (.int x1), none, none] [.int v21.1] v21.2 0 0
  refine Go.run (pc' := 176) [.istore_n 3, .aload_n 0, .iconst 0, .bipush (50)] (ls' := [some (.ref a0), some (.int x1), none, some (.int v21.1)]) (st' := [.int (50 : Int32), .int (0 : Int32), .ref a0]) (by decide +kernel) rfl rfl ?_
  obtain ⟨v23, e24, e⟩ := bd_inv e
  refine Go.callV (M2 := m_M_two) (a := a0) (as := [.int (0 : Int32), .int (50 : Int32)]) (rest := []) (v := some (.int v23.1)) (h1 := v23.2) (x_M_two hf hI k0 e24) wv_M_168 k0 kc_8 (by decide +kernel) rfl rfl ⟨⟨Nat.le_of_ble_eq_true rfl, Nat.le_of_ble_eq_true rfl⟩, ⟨Nat.le_of_ble_eq_true rfl, Nat.le_of_ble_eq_true rfl⟩⟩ (Nat.le_of_ble_eq_true rfl) ?_
  show Go l D ad aC (rmk m_M_readRest) _ m_M_readRest 179 [some (.ref a0), some (.int x1), none, some (.int v21.1)] [.int v23.1] v23.2 0 0
  refine Go.run (pc' := 183) [.istore_n 2, .aload_n 0, .iload_n 3, .iload_n 2] (ls' := [some (.ref a0), some (.int x1), some (.int v23.1), some (.int v21.1)]) (st' := [.int v23.1, .int v21.1, .ref a0]) (by decide +kernel) rfl rfl ?_
  obtain ⟨v25, e26, e⟩ := bd_inv e
  refine Go.callS (M2 := m_M_isSetting) (as := [.int v21.1, .int v23.1]) (rest := [.ref a0]) (v := some (.int v25)) (h1 := v23.2) (x_M_isSetting hf hI  e26) ws_M_202 (by decide +kernel) rfl rfl ⟨⟨Nat.le_of_ble_eq_true rfl, Nat.le_of_ble_eq_true rfl⟩, ⟨Nat.le_of_ble_eq_true rfl, Nat.le_of_ble_eq_true rfl⟩⟩ (Nat.le_of_ble_eq_true rfl) ?_
  show Go l D ad aC (rmk m_M_readRest) _ m_M_readRest 186 [some (.ref a0), some (.int x1), some (.int v23.1), some (.int v21.1)] [.int v25, .ref a0] v23.2 0 0
  obtain ⟨v27, e28, e⟩ := bd_inv e
  refine Go.callV (M2 := m_M_goes) (a := a0) (as := [.int v25]) (rest := []) (v := some (.int v27.1)) (h1 := v27.2) (x_M_goes hf hI k0 e28) wv_M_174 k0 kc_8 (by decide +kernel) rfl rfl ⟨⟨Nat.le_of_ble_eq_true rfl, Nat.le_of_ble_eq_true rfl⟩, ⟨Nat.le_of_ble_eq_true rfl, Nat.le_of_ble_eq_true rfl⟩⟩ (Nat.le_of_ble_eq_true rfl) ?_
  show Go l D ad aC (rmk m_M_readRest) _ m_M_readRest 189 [some (.ref a0), some (.int x1), some (.int v23.1), some (.int v21.1)] [.int v27.1] v27.2 0 0
  refine Go.if_eq (off := 19) (tgt := 208) (by decide +kernel) (by decide) (fun c29 => ?_) (fun c29 => ?_)
  · replace e := ite_t c29 e
    refine Go.run (pc' := 209) [.iconst 0] (ls' := [some (.ref a0), some (.int x1), some (.int v23.1), some (.int v21.1)]) (st' := [.int (0 : Int32)]) (by decide +kernel) rfl rfl ?_
    obtain rfl := Option.some.inj e
    exact Go.iret rfl (by decide) (by decide) (by decide +kernel)
  · replace e := ite_f c29 e
    refine Go.run (pc' := 193) [.aload_n 0] (ls' := [some (.ref a0), some (.int x1), some (.int v23.1), some (.int v21.1)]) (st' := [.ref a0]) (by decide +kernel) rfl rfl ?_
    refine Go.getR fo_M_16 k0 (by decide +kernel) ?_
    refine Go.run (pc' := 202) [.sipush (190), .iload_n 3, .iadd, .iload_n 2] (ls' := [some (.ref a0), some (.int x1), some (.int v23.1), some (.int v21.1)]) (st' := [.int v23.1, .int ((190 : Int32) + v21.1), .ref (fld a0 3)]) (by decide +kernel) rfl rfl ?_
    obtain ⟨v30, e31, e⟩ := bd_inv e
    refine Go.callS (M2 := m_M_put) (as := [.ref (fld a0 3), .int ((190 : Int32) + v21.1), .int v23.1]) (rest := []) (v := some (.int v30.1)) (h1 := v30.2) (x_M_put hf hI (kf_8_j 3 k0 (by decide) (by decide)) (al_8_j 3 k0 (by decide) (by decide) rfl) e31) ws_M_178 (by decide +kernel) rfl rfl ⟨⟨Nat.le_of_ble_eq_true rfl, Nat.le_of_ble_eq_true rfl⟩, ⟨Nat.le_of_ble_eq_true rfl, Nat.le_of_ble_eq_true rfl⟩⟩ (Nat.le_of_ble_eq_true rfl) ?_
    show Go l D ad aC (rmk m_M_readRest) _ m_M_readRest 205 [some (.ref a0), some (.int x1), some (.int v23.1), some (.int v21.1)] [.int v30.1] v30.2 0 0
    refine Go.goto (off := 4) (tgt := 209) (by decide +kernel) (by decide) ?_
    obtain rfl := Option.some.inj e
    exact Go.iret rfl (by decide) (by decide) (by decide +kernel)
def f_M_readCommand_59  (a0 : Nat) (x1 : Int32) (b0 : Nat) (s1 : Int32) (h : HP) : Option (Int32 × HP) :=
  (f_M_take h b0 s1).bind fun v1 =>
  if (v1 a0 14) = 0 then
    some ((0 : Int32), v1)
  else
    if x1 = 100 then
      (f_M_readDealer v1 a0).bind fun v5 =>
      some (v5.1, v5.2)
    else
      if x1 = 111 then
        (f_M_readOutlet v1 a0).bind fun v8 =>
        some (v8.1, v8.2)
      else
        if x1 = 112 then
          (f_M_readPlace v1 a0).bind fun v11 =>
          some (v11.1, v11.2)
        else
          if x1 = 115 then
            (f_M_readSwap v1 a0).bind fun v14 =>
            some (v14.1, v14.2)
          else
            (f_M_readRest v1 a0 x1).bind fun v16 =>
            some (v16.1, v16.2)
set_option maxHeartbeats 1000000 in
theorem x_M_readCommand_59 {l : Launch} {D : va_G} {ad : Nat → Nat} {aC : Nat → ClassId} (hf : l.flags = flags0) (hI : Inj ad) {a0 : Nat} {x1 : Int32} {b0 : Nat} {s1 : Int32} {h : HP} {r : Int32 × HP} (k0 : knd a0 = 8) (kb0 : knd b0 = 8) (e : f_M_readCommand_59 a0 x1 b0 s1 h = some r) : Go l D ad aC (rmk m_M_readCommand) (QM D ad aC m_M_readCommand (.inl (some (.int r.1))) r.2) m_M_readCommand 59 [some (.ref a0), some (.int x1)] [.int s1, .ref b0] h 0 0 := by
  unfold f_M_readCommand_59 at e
  obtain ⟨v1, e2, e⟩ := bd_inv e
  refine Go.callV (M2 := m_M_take) (a := b0) (as := [.int s1]) (rest := []) (v := none) (h1 := v1) (x_M_take hf hI kb0 e2) wv_M_157 kb0 kc_8 (by decide +kernel) rfl rfl ⟨⟨Nat.le_of_ble_eq_true rfl, Nat.le_of_ble_eq_true rfl⟩, ⟨Nat.le_of_ble_eq_true rfl, Nat.le_of_ble_eq_true rfl⟩⟩ (Nat.le_of_ble_eq_true rfl) ?_
  show Go l D ad aC (rmk m_M_readCommand) _ m_M_readCommand 62 [some (.ref a0), some (.int x1)] [] v1 0 0
  refine Go.run (pc' := 63) [.aload_n 0] (ls' := [some (.ref a0), some (.int x1)]) (st' := [.ref a0]) (by decide +kernel) rfl rfl ?_
  refine Go.getI fo_M_149 k0 (by decide +kernel) ?_
  refine Go.if_ne (off := 5) (tgt := 71) (by decide +kernel) (by decide) (fun c3 => ?_) (fun c3 => ?_)
  · replace e := ite_f c3 e
    refine Go.run (pc' := 72) [.iload_n 1] (ls' := [some (.ref a0), some (.int x1)]) (st' := [.int x1]) (by decide +kernel) rfl rfl ?_
    rcases Decidable.em (x1 = 100) with c4 | c4
    · replace e := ite_t c4 e
      refine Go.lks (dflt := 64) (ps := #[(100, 49), (111, 44), (112, 54), (115, 59)]) (len := 44) (off := 49) (tgt := 121) (by decide +kernel) (by decide) (by rw [c4]; decide) (by decide) ?_
      refine Go.run (pc' := 122) [.aload_n 0] (ls' := [some (.ref a0), some (.int x1)]) (st' := [.ref a0]) (by decide +kernel) rfl rfl ?_
      obtain ⟨v5, e6, e⟩ := bd_inv e
      refine Go.callV (M2 := m_M_readDealer) (a := a0) (as := []) (rest := []) (v := some (.int v5.1)) (h1 := v5.2) (x_M_readDealer hf hI k0 e6) wv_M_209 k0 kc_8 (by decide +kernel) rfl rfl ⟨⟨Nat.le_of_ble_eq_true rfl, Nat.le_of_ble_eq_true rfl⟩, ⟨Nat.le_of_ble_eq_true rfl, Nat.le_of_ble_eq_true rfl⟩⟩ (Nat.le_of_ble_eq_true rfl) ?_
      show Go l D ad aC (rmk m_M_readCommand) _ m_M_readCommand 125 [some (.ref a0), some (.int x1)] [.int v5.1] v5.2 0 0
      obtain rfl := Option.some.inj e
      exact Go.iret rfl (by decide) (by decide) (by decide +kernel)
    replace e := ite_f c4 e
    rcases Decidable.em (x1 = 111) with c7 | c7
    · replace e := ite_t c7 e
      refine Go.lks (dflt := 64) (ps := #[(100, 49), (111, 44), (112, 54), (115, 59)]) (len := 44) (off := 44) (tgt := 116) (by decide +kernel) (by decide) (by rw [c7]; decide) (by decide) ?_
      refine Go.run (pc' := 117) [.aload_n 0] (ls' := [some (.ref a0), some (.int x1)]) (st' := [.ref a0]) (by decide +kernel) rfl rfl ?_
      obtain ⟨v8, e9, e⟩ := bd_inv e
      refine Go.callV (M2 := m_M_readOutlet) (a := a0) (as := []) (rest := []) (v := some (.int v8.1)) (h1 := v8.2) (x_M_readOutlet hf hI k0 e9) wv_M_206 k0 kc_8 (by decide +kernel) rfl rfl ⟨⟨Nat.le_of_ble_eq_true rfl, Nat.le_of_ble_eq_true rfl⟩, ⟨Nat.le_of_ble_eq_true rfl, Nat.le_of_ble_eq_true rfl⟩⟩ (Nat.le_of_ble_eq_true rfl) ?_
      show Go l D ad aC (rmk m_M_readCommand) _ m_M_readCommand 120 [some (.ref a0), some (.int x1)] [.int v8.1] v8.2 0 0
      obtain rfl := Option.some.inj e
      exact Go.iret rfl (by decide) (by decide) (by decide +kernel)
    replace e := ite_f c7 e
    rcases Decidable.em (x1 = 112) with c10 | c10
    · replace e := ite_t c10 e
      refine Go.lks (dflt := 64) (ps := #[(100, 49), (111, 44), (112, 54), (115, 59)]) (len := 44) (off := 54) (tgt := 126) (by decide +kernel) (by decide) (by rw [c10]; decide) (by decide) ?_
      refine Go.run (pc' := 127) [.aload_n 0] (ls' := [some (.ref a0), some (.int x1)]) (st' := [.ref a0]) (by decide +kernel) rfl rfl ?_
      obtain ⟨v11, e12, e⟩ := bd_inv e
      refine Go.callV (M2 := m_M_readPlace) (a := a0) (as := []) (rest := []) (v := some (.int v11.1)) (h1 := v11.2) (x_M_readPlace hf hI k0 e12) wv_M_212 k0 kc_8 (by decide +kernel) rfl rfl ⟨⟨Nat.le_of_ble_eq_true rfl, Nat.le_of_ble_eq_true rfl⟩, ⟨Nat.le_of_ble_eq_true rfl, Nat.le_of_ble_eq_true rfl⟩⟩ (Nat.le_of_ble_eq_true rfl) ?_
      show Go l D ad aC (rmk m_M_readCommand) _ m_M_readCommand 130 [some (.ref a0), some (.int x1)] [.int v11.1] v11.2 0 0
      obtain rfl := Option.some.inj e
      exact Go.iret rfl (by decide) (by decide) (by decide +kernel)
    replace e := ite_f c10 e
    rcases Decidable.em (x1 = 115) with c13 | c13
    · replace e := ite_t c13 e
      refine Go.lks (dflt := 64) (ps := #[(100, 49), (111, 44), (112, 54), (115, 59)]) (len := 44) (off := 59) (tgt := 131) (by decide +kernel) (by decide) (by rw [c13]; decide) (by decide) ?_
      refine Go.run (pc' := 132) [.aload_n 0] (ls' := [some (.ref a0), some (.int x1)]) (st' := [.ref a0]) (by decide +kernel) rfl rfl ?_
      obtain ⟨v14, e15, e⟩ := bd_inv e
      refine Go.callV (M2 := m_M_readSwap) (a := a0) (as := []) (rest := []) (v := some (.int v14.1)) (h1 := v14.2) (x_M_readSwap hf hI k0 e15) wv_M_215 k0 kc_8 (by decide +kernel) rfl rfl ⟨⟨Nat.le_of_ble_eq_true rfl, Nat.le_of_ble_eq_true rfl⟩, ⟨Nat.le_of_ble_eq_true rfl, Nat.le_of_ble_eq_true rfl⟩⟩ (Nat.le_of_ble_eq_true rfl) ?_
      show Go l D ad aC (rmk m_M_readCommand) _ m_M_readCommand 135 [some (.ref a0), some (.int x1)] [.int v14.1] v14.2 0 0
      obtain rfl := Option.some.inj e
      exact Go.iret rfl (by decide) (by decide) (by decide +kernel)
    replace e := ite_f c13 e
    refine Go.lks (dflt := 64) (ps := #[(100, 49), (111, 44), (112, 54), (115, 59)]) (len := 44) (off := 64) (tgt := 136) (by decide +kernel) (by decide) (by simp only []; rw [lv_osw c4 (a := 100) rfl, lv_osw c7 (a := 111) rfl, lv_osw c10 (a := 112) rfl, lv_osw c13 (a := 115) rfl]; rfl) (by decide) ?_
    refine Go.run (pc' := 138) [.aload_n 0, .iload_n 1] (ls' := [some (.ref a0), some (.int x1)]) (st' := [.int x1, .ref a0]) (by decide +kernel) rfl rfl ?_
    obtain ⟨v16, e17, e⟩ := bd_inv e
    refine Go.callV (M2 := m_M_readRest) (a := a0) (as := [.int x1]) (rest := []) (v := some (.int v16.1)) (h1 := v16.2) (x_M_readRest hf hI k0 e17) wv_M_218 k0 kc_8 (by decide +kernel) rfl rfl ⟨⟨Nat.le_of_ble_eq_true rfl, Nat.le_of_ble_eq_true rfl⟩, ⟨Nat.le_of_ble_eq_true rfl, Nat.le_of_ble_eq_true rfl⟩⟩ (Nat.le_of_ble_eq_true rfl) ?_
    show Go l D ad aC (rmk m_M_readCommand) _ m_M_readCommand 141 [some (.ref a0), some (.int x1)] [.int v16.1] v16.2 0 0
    obtain rfl := Option.some.inj e
    exact Go.iret rfl (by decide) (by decide) (by decide +kernel)
  · replace e := ite_t c3 e
    refine Go.run (pc' := 70) [.iconst 0] (ls' := [some (.ref a0), some (.int x1)]) (st' := [.int (0 : Int32)]) (by decide +kernel) rfl rfl ?_
    obtain rfl := Option.some.inj e
    exact Go.iret rfl (by decide) (by decide) (by decide +kernel)
def f_M_readCommand_54  (a0 : Nat) (x1 : Int32) (b0 : Nat) (h : HP) : Option (Int32 × HP) :=
  f_M_readCommand_59 a0 x1 b0 (1 : Int32) h
set_option maxHeartbeats 1000000 in
theorem x_M_readCommand_54 {l : Launch} {D : va_G} {ad : Nat → Nat} {aC : Nat → ClassId} (hf : l.flags = flags0) (hI : Inj ad) {a0 : Nat} {x1 : Int32} {b0 : Nat} {h : HP} {r : Int32 × HP} (k0 : knd a0 = 8) (kb0 : knd b0 = 8) (e : f_M_readCommand_54 a0 x1 b0 h = some r) : Go l D ad aC (rmk m_M_readCommand) (QM D ad aC m_M_readCommand (.inl (some (.int r.1))) r.2) m_M_readCommand 54 [some (.ref a0), some (.int x1)] [.ref b0] h 0 0 := by
  unfold f_M_readCommand_54 at e
  refine Go.run (pc' := 55) [.iconst 1] (ls' := [some (.ref a0), some (.int x1)]) (st' := [.int (1 : Int32), .ref b0]) (by decide +kernel) rfl rfl ?_
  refine Go.goto (off := 4) (tgt := 59) (by decide +kernel) (by decide) ?_
  exact x_M_readCommand_59 hf hI k0 kb0 e
def f_M_readCommand (h : HP) (a0 : Nat) : Option (Int32 × HP) :=
  (f_M_here h a0).bind fun v1 =>
  if v1 = (119 : Int32) then
    f_M_readCommand_54 a0 v1 a0 h
  else
    if v1 = (111 : Int32) then
      f_M_readCommand_54 a0 v1 a0 h
    else
      if v1 = (100 : Int32) then
        f_M_readCommand_54 a0 v1 a0 h
      else
        if v1 = (112 : Int32) then
          f_M_readCommand_54 a0 v1 a0 h
        else
          if v1 = (108 : Int32) then
            f_M_readCommand_54 a0 v1 a0 h
          else
            if v1 = (115 : Int32) then
              f_M_readCommand_54 a0 v1 a0 h
            else
              if v1 = (110 : Int32) then
                f_M_readCommand_54 a0 v1 a0 h
              else
                if v1 = (101 : Int32) then
                  f_M_readCommand_54 a0 v1 a0 h
                else
                  f_M_readCommand_59 a0 v1 a0 (0 : Int32) h
set_option maxHeartbeats 1000000 in
theorem x_M_readCommand {l : Launch} {D : va_G} {ad : Nat → Nat} {aC : Nat → ClassId} (hf : l.flags = flags0) (hI : Inj ad) {h : HP} {a0 : Nat} {r : Int32 × HP} (k0 : knd a0 = 8) (e : f_M_readCommand h a0 = some r) : CT l D ad aC m_M_readCommand [.ref a0] h (.inl (some (.int r.1))) r.2 := by
  refine CT.ofGo (by decide +kernel) rfl (Nat.le_of_ble_eq_true rfl) ?_
  unfold f_M_readCommand at e
  show Go l D ad aC (rmk m_M_readCommand) _ m_M_readCommand 0 [some (.ref a0), none] [] h 0 0
  refine Go.run (pc' := 1) [.aload_n 0] (ls' := [some (.ref a0), none]) (st' := [.ref a0]) (by decide +kernel) rfl rfl ?_
  obtain ⟨v1, e2, e⟩ := bd_inv e
  refine Go.callV (M2 := m_M_here) (a := a0) (as := []) (rest := []) (v := some (.int v1)) (h1 := h) (x_M_here hf hI k0 e2) wv_M_153 k0 kc_8 (by decide +kernel) rfl rfl ⟨⟨Nat.le_of_ble_eq_true rfl, Nat.le_of_ble_eq_true rfl⟩, ⟨Nat.le_of_ble_eq_true rfl, Nat.le_of_ble_eq_true rfl⟩⟩ (Nat.le_of_ble_eq_true rfl) ?_
  show Go l D ad aC (rmk m_M_readCommand) _ m_M_readCommand 4 [some (.ref a0), none] [.int v1] h 0 0
  refine Go.run (pc' := 9) [.istore_n 1, .aload_n 0, .iload_n 1, .bipush (119)] (ls' := [some (.ref a0), some (.int v1)]) (st' := [.int (119 : Int32), .int v1, .ref a0]) (by decide +kernel) rfl rfl ?_
  refine Go.ic_eq (off := 45) (tgt := 54) (by decide +kernel) (by decide) (fun c3 => ?_) (fun c3 => ?_)
  · replace e := ite_t c3 e
    exact x_M_readCommand_54 hf hI k0 k0 e
  · replace e := ite_f c3 e
    refine Go.run (pc' := 15) [.iload_n 1, .bipush (111)] (ls' := [some (.ref a0), some (.int v1)]) (st' := [.int (111 : Int32), .int v1, .ref a0]) (by decide +kernel) rfl rfl ?_
    refine Go.ic_eq (off := 39) (tgt := 54) (by decide +kernel) (by decide) (fun c4 => ?_) (fun c4 => ?_)
    · replace e := ite_t c4 e
      exact x_M_readCommand_54 hf hI k0 k0 e
    · replace e := ite_f c4 e
      refine Go.run (pc' := 21) [.iload_n 1, .bipush (100)] (ls' := [some (.ref a0), some (.int v1)]) (st' := [.int (100 : Int32), .int v1, .ref a0]) (by decide +kernel) rfl rfl ?_
      refine Go.ic_eq (off := 33) (tgt := 54) (by decide +kernel) (by decide) (fun c5 => ?_) (fun c5 => ?_)
      · replace e := ite_t c5 e
        exact x_M_readCommand_54 hf hI k0 k0 e
      · replace e := ite_f c5 e
        refine Go.run (pc' := 27) [.iload_n 1, .bipush (112)] (ls' := [some (.ref a0), some (.int v1)]) (st' := [.int (112 : Int32), .int v1, .ref a0]) (by decide +kernel) rfl rfl ?_
        refine Go.ic_eq (off := 27) (tgt := 54) (by decide +kernel) (by decide) (fun c6 => ?_) (fun c6 => ?_)
        · replace e := ite_t c6 e
          exact x_M_readCommand_54 hf hI k0 k0 e
        · replace e := ite_f c6 e
          refine Go.run (pc' := 33) [.iload_n 1, .bipush (108)] (ls' := [some (.ref a0), some (.int v1)]) (st' := [.int (108 : Int32), .int v1, .ref a0]) (by decide +kernel) rfl rfl ?_
          refine Go.ic_eq (off := 21) (tgt := 54) (by decide +kernel) (by decide) (fun c7 => ?_) (fun c7 => ?_)
          · replace e := ite_t c7 e
            exact x_M_readCommand_54 hf hI k0 k0 e
          · replace e := ite_f c7 e
            refine Go.run (pc' := 39) [.iload_n 1, .bipush (115)] (ls' := [some (.ref a0), some (.int v1)]) (st' := [.int (115 : Int32), .int v1, .ref a0]) (by decide +kernel) rfl rfl ?_
            refine Go.ic_eq (off := 15) (tgt := 54) (by decide +kernel) (by decide) (fun c8 => ?_) (fun c8 => ?_)
            · replace e := ite_t c8 e
              exact x_M_readCommand_54 hf hI k0 k0 e
            · replace e := ite_f c8 e
              refine Go.run (pc' := 45) [.iload_n 1, .bipush (110)] (ls' := [some (.ref a0), some (.int v1)]) (st' := [.int (110 : Int32), .int v1, .ref a0]) (by decide +kernel) rfl rfl ?_
              refine Go.ic_eq (off := 9) (tgt := 54) (by decide +kernel) (by decide) (fun c9 => ?_) (fun c9 => ?_)
              · replace e := ite_t c9 e
                exact x_M_readCommand_54 hf hI k0 k0 e
              · replace e := ite_f c9 e
                refine Go.run (pc' := 51) [.iload_n 1, .bipush (101)] (ls' := [some (.ref a0), some (.int v1)]) (st' := [.int (101 : Int32), .int v1, .ref a0]) (by decide +kernel) rfl rfl ?_
                refine Go.ic_ne (off := 7) (tgt := 58) (by decide +kernel) (by decide) (fun c10 => ?_) (fun c10 => ?_)
                · replace e := ite_f c10 e
                  refine Go.run (pc' := 59) [.iconst 0] (ls' := [some (.ref a0), some (.int v1)]) (st' := [.int (0 : Int32), .ref a0]) (by decide +kernel) rfl rfl ?_
                  exact x_M_readCommand_59 hf hI k0 k0 e
                · replace e := ite_t c10 e
                  exact x_M_readCommand_54 hf hI k0 k0 e
def f_M_readAll_66  (a0 : Nat) (h : HP) : Option (Int32 × HP) :=
  if (h a0 14) = 0 then
    some (h a0 13, h)
  else
    some ((-1 : Int32), h)
set_option maxHeartbeats 1000000 in
theorem x_M_readAll_66 {l : Launch} {D : va_G} {ad : Nat → Nat} {aC : Nat → ClassId} (hf : l.flags = flags0) (hI : Inj ad) {a0 : Nat} {h : HP} {r : Int32 × HP} (k0 : knd a0 = 8) (e : f_M_readAll_66 a0 h = some r) : Go l D ad aC (rmk m_M_readAll) (QM D ad aC m_M_readAll (.inl (some (.int r.1))) r.2) m_M_readAll 66 [some (.ref a0), none] [] h 0 0 := by
  unfold f_M_readAll_66 at e
  refine Go.run (pc' := 67) [.aload_n 0] (ls' := [some (.ref a0), none]) (st' := [.ref a0]) (by decide +kernel) rfl rfl ?_
  refine Go.getI fo_M_149 k0 (by decide +kernel) ?_
  refine Go.if_eq (off := 7) (tgt := 77) (by decide +kernel) (by decide) (fun c1 => ?_) (fun c1 => ?_)
  · replace e := ite_t c1 e
    refine Go.run (pc' := 78) [.aload_n 0] (ls' := [some (.ref a0), none]) (st' := [.ref a0]) (by decide +kernel) rfl rfl ?_
    refine Go.getI fo_M_146 k0 (by decide +kernel) ?_
    obtain rfl := Option.some.inj e
    exact Go.iret rfl (by decide) (by decide) (by decide +kernel)
  · replace e := ite_f c1 e
    refine Go.run (pc' := 74) [.iconst (-1)] (ls' := [some (.ref a0), none]) (st' := [.int (-1 : Int32)]) (by decide +kernel) rfl rfl ?_
    refine Go.goto (off := 7) (tgt := 81) (by decide +kernel) (by decide) ?_
    obtain rfl := Option.some.inj e
    exact Go.iret rfl (by decide) (by decide) (by decide +kernel)
def f_M_readAll_40  : Nat → Nat → HP → Option (Int32 × HP)
  | 0, _, _ => none
  | n + 1, a0, h =>
    if (h a0 14) = 0 then
      f_M_readAll_66 a0 h
    else
      if (h a0 12) ≤ (h a0 13) then
        f_M_readAll_66 a0 h
      else
        (f_M_readCommand h a0).bind fun v3 =>
        f_M_readAll_40 n a0 v3.2
set_option maxHeartbeats 1000000 in
theorem x_M_readAll_40 {l : Launch} {D : va_G} {ad : Nat → Nat} {aC : Nat → ClassId} (hf : l.flags = flags0) (hI : Inj ad) : ∀ (n : Nat) {a0 : Nat} {h : HP} {r : Int32 × HP}, knd a0 = 8 → f_M_readAll_40 n a0 h = some r → Go l D ad aC (rmk m_M_readAll) (QM D ad aC m_M_readAll (.inl (some (.int r.1))) r.2) m_M_readAll 40 [some (.ref a0), none] [] h 0 0 := by
  intro n
  induction n with
  | zero => intro a0 h r k0 e; exact no_none e
  | succ n ih =>
    intro a0 h r k0 e
    rw [f_M_readAll_40] at e
    refine Go.run (pc' := 41) [.aload_n 0] (ls' := [some (.ref a0), none]) (st' := [.ref a0]) (by decide +kernel) rfl rfl ?_
    refine Go.getI fo_M_149 k0 (by decide +kernel) ?_
    refine Go.if_eq (off := 22) (tgt := 66) (by decide +kernel) (by decide) (fun c1 => ?_) (fun c1 => ?_)
    · replace e := ite_t c1 e
      exact x_M_readAll_66 hf hI k0 e
    · replace e := ite_f c1 e
      refine Go.run (pc' := 48) [.aload_n 0] (ls' := [some (.ref a0), none]) (st' := [.ref a0]) (by decide +kernel) rfl rfl ?_
      refine Go.getI fo_M_146 k0 (by decide +kernel) ?_
      refine Go.run (pc' := 52) [.aload_n 0] (ls' := [some (.ref a0), none]) (st' := [.ref a0, .int (h a0 13)]) (by decide +kernel) rfl rfl ?_
      refine Go.getI fo_M_139 k0 (by decide +kernel) ?_
      refine Go.ic_ge (off := 11) (tgt := 66) (by decide +kernel) (by decide) (fun c2 => ?_) (fun c2 => ?_)
      · replace e := ite_t c2 e
        exact x_M_readAll_66 hf hI k0 e
      · replace e := ite_f c2 e
        refine Go.run (pc' := 59) [.aload_n 0] (ls' := [some (.ref a0), none]) (st' := [.ref a0]) (by decide +kernel) rfl rfl ?_
        obtain ⟨v3, e4, e⟩ := bd_inv e
        refine Go.callV (M2 := m_M_readCommand) (a := a0) (as := []) (rest := []) (v := some (.int v3.1)) (h1 := v3.2) (x_M_readCommand hf hI k0 e4) wv_M_221 k0 kc_8 (by decide +kernel) rfl rfl ⟨⟨Nat.le_of_ble_eq_true rfl, Nat.le_of_ble_eq_true rfl⟩, ⟨Nat.le_of_ble_eq_true rfl, Nat.le_of_ble_eq_true rfl⟩⟩ (Nat.le_of_ble_eq_true rfl) ?_
        show Go l D ad aC (rmk m_M_readAll) _ m_M_readAll 62 [some (.ref a0), none] [.int v3.1] v3.2 0 0
        refine Go.run (pc' := 63) [.istore_n 1] (ls' := [some (.ref a0), some (.int v3.1)]) (st' := []) (by decide +kernel) rfl rfl ?_
        refine Go.goto (off := -23) (tgt := 40) (by decide +kernel) (by decide) ?_
        refine Go.wk' (wks (wkn wk0)) ?_
        exact ih k0 e
def f_M_readAll_37  (a0 : Nat) (b0 : Nat) (s1 : Int32) (h : HP) : Option (Int32 × HP) :=
  (f_M_take h b0 s1).bind fun v1 =>
  f_M_readAll_40 4096 a0 v1
set_option maxHeartbeats 1000000 in
theorem x_M_readAll_37 {l : Launch} {D : va_G} {ad : Nat → Nat} {aC : Nat → ClassId} (hf : l.flags = flags0) (hI : Inj ad) {a0 : Nat} {b0 : Nat} {s1 : Int32} {h : HP} {r : Int32 × HP} (k0 : knd a0 = 8) (kb0 : knd b0 = 8) (e : f_M_readAll_37 a0 b0 s1 h = some r) : Go l D ad aC (rmk m_M_readAll) (QM D ad aC m_M_readAll (.inl (some (.int r.1))) r.2) m_M_readAll 37 [some (.ref a0), none] [.int s1, .ref b0] h 0 0 := by
  unfold f_M_readAll_37 at e
  obtain ⟨v1, e2, e⟩ := bd_inv e
  refine Go.callV (M2 := m_M_take) (a := b0) (as := [.int s1]) (rest := []) (v := none) (h1 := v1) (x_M_take hf hI kb0 e2) wv_M_157 kb0 kc_8 (by decide +kernel) rfl rfl ⟨⟨Nat.le_of_ble_eq_true rfl, Nat.le_of_ble_eq_true rfl⟩, ⟨Nat.le_of_ble_eq_true rfl, Nat.le_of_ble_eq_true rfl⟩⟩ (Nat.le_of_ble_eq_true rfl) ?_
  show Go l D ad aC (rmk m_M_readAll) _ m_M_readAll 40 [some (.ref a0), none] [] v1 0 0
  exact x_M_readAll_40 hf hI 4096 k0 e
def f_M_readAll (h : HP) (a0 : Nat) : Option (Int32 × HP) :=
  (some (hset h a0 13 (0 : Int32))).bind fun h1 =>
  (some (hset h1 a0 14 (1 : Int32))).bind fun h3 =>
  (some (hset h3 a0 15 (0 : Int32))).bind fun h5 =>
  (f_M_fresh h5 (fld a0 3)).bind fun v7 =>
  (f_M_here v7 a0).bind fun v9 =>
  if v9 = (65 : Int32) then
    f_M_readAll_37 a0 a0 (1 : Int32) v7
  else
    f_M_readAll_37 a0 a0 (0 : Int32) v7
set_option maxHeartbeats 1000000 in
theorem x_M_readAll {l : Launch} {D : va_G} {ad : Nat → Nat} {aC : Nat → ClassId} (hf : l.flags = flags0) (hI : Inj ad) {h : HP} {a0 : Nat} {r : Int32 × HP} (k0 : knd a0 = 8) (e : f_M_readAll h a0 = some r) : CT l D ad aC m_M_readAll [.ref a0] h (.inl (some (.int r.1))) r.2 := by
  refine CT.ofGo (by decide +kernel) rfl (Nat.le_of_ble_eq_true rfl) ?_
  unfold f_M_readAll at e
  show Go l D ad aC (rmk m_M_readAll) _ m_M_readAll 0 [some (.ref a0), none] [] h 0 0
  refine Go.run (pc' := 2) [.aload_n 0, .iconst 0] (ls' := [some (.ref a0), none]) (st' := [.int (0 : Int32), .ref a0]) (by decide +kernel) rfl rfl ?_
  refine Go.put hI po_M_146 k0 (nar_i _) (fit_i _) (by decide +kernel) ?_
  obtain ⟨h1, q2, e⟩ := bd_inv e
  refine Go.eqH (Option.some.inj q2) ?_
  refine Go.run (pc' := 7) [.aload_n 0, .iconst 1] (ls' := [some (.ref a0), none]) (st' := [.int (1 : Int32), .ref a0]) (by decide +kernel) rfl rfl ?_
  refine Go.put hI po_M_149 k0 nar_z1 fit_z1 (by decide +kernel) ?_
  obtain ⟨h3, q4, e⟩ := bd_inv e
  refine Go.eqH (Option.some.inj q4) ?_
  refine Go.run (pc' := 12) [.aload_n 0, .iconst 0] (ls' := [some (.ref a0), none]) (st' := [.int (0 : Int32), .ref a0]) (by decide +kernel) rfl rfl ?_
  refine Go.put hI po_M_165 k0 (nar_i _) (fit_i _) (by decide +kernel) ?_
  obtain ⟨h5, q6, e⟩ := bd_inv e
  refine Go.eqH (Option.some.inj q6) ?_
  refine Go.run (pc' := 16) [.aload_n 0] (ls' := [some (.ref a0), none]) (st' := [.ref a0]) (by decide +kernel) rfl rfl ?_
  refine Go.getR fo_M_16 k0 (by decide +kernel) ?_
  obtain ⟨v7, e8, e⟩ := bd_inv e
  refine Go.callS (M2 := m_M_fresh) (as := [.ref (fld a0 3)]) (rest := []) (v := none) (h1 := v7) (x_M_fresh hf hI (kf_8_j 3 k0 (by decide) (by decide)) (al_8_j 3 k0 (by decide) (by decide) rfl) e8) ws_M_41 (by decide +kernel) rfl rfl ⟨⟨Nat.le_of_ble_eq_true rfl, Nat.le_of_ble_eq_true rfl⟩, ⟨Nat.le_of_ble_eq_true rfl, Nat.le_of_ble_eq_true rfl⟩⟩ (Nat.le_of_ble_eq_true rfl) ?_
  show Go l D ad aC (rmk m_M_readAll) _ m_M_readAll 22 [some (.ref a0), none] [] v7 0 0
  refine Go.run (pc' := 24) [.aload_n 0, .aload_n 0] (ls' := [some (.ref a0), none]) (st' := [.ref a0, .ref a0]) (by decide +kernel) rfl rfl ?_
  obtain ⟨v9, e10, e⟩ := bd_inv e
  refine Go.callV (M2 := m_M_here) (a := a0) (as := []) (rest := [.ref a0]) (v := some (.int v9)) (h1 := v7) (x_M_here hf hI k0 e10) wv_M_153 k0 kc_8 (by decide +kernel) rfl rfl ⟨⟨Nat.le_of_ble_eq_true rfl, Nat.le_of_ble_eq_true rfl⟩, ⟨Nat.le_of_ble_eq_true rfl, Nat.le_of_ble_eq_true rfl⟩⟩ (Nat.le_of_ble_eq_true rfl) ?_
  show Go l D ad aC (rmk m_M_readAll) _ m_M_readAll 27 [some (.ref a0), none] [.int v9, .ref a0] v7 0 0
  refine Go.run (pc' := 29) [.bipush (65)] (ls' := [some (.ref a0), none]) (st' := [.int (65 : Int32), .int v9, .ref a0]) (by decide +kernel) rfl rfl ?_
  refine Go.ic_ne (off := 7) (tgt := 36) (by decide +kernel) (by decide) (fun c11 => ?_) (fun c11 => ?_)
  · replace e := ite_f c11 e
    refine Go.run (pc' := 37) [.iconst 0] (ls' := [some (.ref a0), none]) (st' := [.int (0 : Int32), .ref a0]) (by decide +kernel) rfl rfl ?_
    exact x_M_readAll_37 hf hI k0 k0 e
  · replace e := ite_t c11 e
    refine Go.run (pc' := 33) [.iconst 1] (ls' := [some (.ref a0), none]) (st' := [.int (1 : Int32), .ref a0]) (by decide +kernel) rfl rfl ?_
    refine Go.goto (off := 4) (tgt := 37) (by decide +kernel) (by decide) ?_
    exact x_M_readAll_37 hf hI k0 k0 e
def f_M_errorPosition (h : HP) (a0 : Nat) : Option (Int32 × HP) :=
  (some (hset h a0 0 (0 : Int32))).bind fun h1 =>
  (f_M_readAll h1 a0).bind fun v3 =>
  some (v3.1, v3.2)
set_option maxHeartbeats 1000000 in
theorem x_M_errorPosition {l : Launch} {D : va_G} {ad : Nat → Nat} {aC : Nat → ClassId} (hf : l.flags = flags0) (hI : Inj ad) {h : HP} {a0 : Nat} {r : Int32 × HP} (k0 : knd a0 = 8) (e : f_M_errorPosition h a0 = some r) : CT l D ad aC m_M_errorPosition [.ref a0] h (.inl (some (.int r.1))) r.2 := by
  refine CT.ofGo (by decide +kernel) rfl (Nat.le_of_ble_eq_true rfl) ?_
  unfold f_M_errorPosition at e
  show Go l D ad aC (rmk m_M_errorPosition) _ m_M_errorPosition 0 [some (.ref a0)] [] h 0 0
  refine Go.run (pc' := 2) [.aload_n 0, .iconst 0] (ls' := [some (.ref a0)]) (st' := [.int (0 : Int32), .ref a0]) (by decide +kernel) rfl rfl ?_
  refine Go.put hI po_M_45 k0 (nar_i _) (fit_i _) (by decide +kernel) ?_
  obtain ⟨h1, q2, e⟩ := bd_inv e
  refine Go.eqH (Option.some.inj q2) ?_
  refine Go.run (pc' := 6) [.aload_n 0] (ls' := [some (.ref a0)]) (st' := [.ref a0]) (by decide +kernel) rfl rfl ?_
  obtain ⟨v3, e4, e⟩ := bd_inv e
  refine Go.callV (M2 := m_M_readAll) (a := a0) (as := []) (rest := []) (v := some (.int v3.1)) (h1 := v3.2) (x_M_readAll hf hI k0 e4) wv_M_224 k0 kc_8 (by decide +kernel) rfl rfl ⟨⟨Nat.le_of_ble_eq_true rfl, Nat.le_of_ble_eq_true rfl⟩, ⟨Nat.le_of_ble_eq_true rfl, Nat.le_of_ble_eq_true rfl⟩⟩ (Nat.le_of_ble_eq_true rfl) ?_
  show Go l D ad aC (rmk m_M_errorPosition) _ m_M_errorPosition 9 [some (.ref a0)] [.int v3.1] v3.2 0 0
  obtain rfl := Option.some.inj e
  exact Go.iret rfl (by decide) (by decide) (by decide +kernel)
def f_M_load_14  (a0 : Nat) (b0 : Nat) (s1 : Int32) (h : HP) : Option (Int32 × HP) :=
  (f_M_refused h b0 s1).bind fun v1 =>
  if v1.1 = 0 then
    (f_M_copy v1.2 (fld a0 3) (fld a0 1)).bind fun v4 =>
    (some (hset v4 a0 5 (0 : Int32))).bind fun h6 =>
    if ib (0 : Int32) 2 = true then
    (some (hset h6 (fld a0 7) (0 : Int32).toNatClampNeg (0 : Int32))).bind fun h9 =>
    if ib (1 : Int32) 2 = true then
    (some (hset h9 (fld a0 7) (1 : Int32).toNatClampNeg (0 : Int32))).bind fun h12 =>
    some (h12 a0 15, h12)
    else none
    else none
  else
    some ((0 : Int32), v1.2)
set_option maxHeartbeats 1000000 in
theorem x_M_load_14 {l : Launch} {D : va_G} {ad : Nat → Nat} {aC : Nat → ClassId} (hf : l.flags = flags0) (hI : Inj ad) {a0 : Nat} {b0 : Nat} {s1 : Int32} {h : HP} {r : Int32 × HP} (k0 : knd a0 = 8) (kb0 : knd b0 = 8) (e : f_M_load_14 a0 b0 s1 h = some r) : Go l D ad aC (rmk m_M_load) (QM D ad aC m_M_load (.inl (some (.int r.1))) r.2) m_M_load 14 [some (.ref a0)] [.int s1, .ref b0] h 0 0 := by
  unfold f_M_load_14 at e
  obtain ⟨v1, e2, e⟩ := bd_inv e
  refine Go.callV (M2 := m_M_refused) (a := b0) (as := [.int s1]) (rest := []) (v := some (.int v1.1)) (h1 := v1.2) (x_M_refused hf hI kb0 e2) wv_M_142 kb0 kc_8 (by decide +kernel) rfl rfl ⟨⟨Nat.le_of_ble_eq_true rfl, Nat.le_of_ble_eq_true rfl⟩, ⟨Nat.le_of_ble_eq_true rfl, Nat.le_of_ble_eq_true rfl⟩⟩ (Nat.le_of_ble_eq_true rfl) ?_
  show Go l D ad aC (rmk m_M_load) _ m_M_load 17 [some (.ref a0)] [.int v1.1] v1.2 0 0
  refine Go.if_eq (off := 5) (tgt := 22) (by decide +kernel) (by decide) (fun c3 => ?_) (fun c3 => ?_)
  · replace e := ite_t c3 e
    refine Go.run (pc' := 23) [.aload_n 0] (ls' := [some (.ref a0)]) (st' := [.ref a0]) (by decide +kernel) rfl rfl ?_
    refine Go.getR fo_M_16 k0 (by decide +kernel) ?_
    refine Go.run (pc' := 27) [.aload_n 0] (ls' := [some (.ref a0)]) (st' := [.ref a0, .ref (fld a0 3)]) (by decide +kernel) rfl rfl ?_
    refine Go.getR fo_M_7 k0 (by decide +kernel) ?_
    obtain ⟨v4, e5, e⟩ := bd_inv e
    refine Go.callS (M2 := m_M_copy) (as := [.ref (fld a0 3), .ref (fld a0 1)]) (rest := []) (v := none) (h1 := v4) (x_M_copy hf hI (kf_8_j 3 k0 (by decide) (by decide)) (al_8_j 3 k0 (by decide) (by decide) rfl) (kf_8_j 1 k0 (by decide) (by decide)) (al_8_j 1 k0 (by decide) (by decide) rfl) e5) ws_M_227 (by decide +kernel) rfl rfl ⟨⟨Nat.le_of_ble_eq_true rfl, Nat.le_of_ble_eq_true rfl⟩, ⟨Nat.le_of_ble_eq_true rfl, Nat.le_of_ble_eq_true rfl⟩⟩ (Nat.le_of_ble_eq_true rfl) ?_
    show Go l D ad aC (rmk m_M_load) _ m_M_load 33 [some (.ref a0)] [] v4 0 0
    refine Go.run (pc' := 35) [.aload_n 0, .iconst 0] (ls' := [some (.ref a0)]) (st' := [.int (0 : Int32), .ref a0]) (by decide +kernel) rfl rfl ?_
    refine Go.put hI po_M_134 k0 (nar_i _) (fit_i _) (by decide +kernel) ?_
    obtain ⟨h6, q7, e⟩ := bd_inv e
    refine Go.eqH (Option.some.inj q7) ?_
    refine Go.run (pc' := 39) [.aload_n 0] (ls' := [some (.ref a0)]) (st' := [.ref a0]) (by decide +kernel) rfl rfl ?_
    refine Go.getR fo_M_25 k0 (by decide +kernel) ?_
    refine Go.run (pc' := 44) [.iconst 0, .iconst 0] (ls' := [some (.ref a0)]) (st' := [.int (0 : Int32), .int (0 : Int32), .ref (fld a0 7)]) (by decide +kernel) rfl rfl ?_
    obtain ⟨g8, e⟩ := gd_inv e
    refine Go.bast hI (kf_8_7 k0) (al_8_7 k0) g8 (isB_vp (by decide)) (by decide +kernel) ?_
    obtain ⟨h9, q10, e⟩ := bd_inv e
    refine Go.eqH (Option.some.inj q10) ?_
    refine Go.run (pc' := 46) [.aload_n 0] (ls' := [some (.ref a0)]) (st' := [.ref a0]) (by decide +kernel) rfl rfl ?_
    refine Go.getR fo_M_25 k0 (by decide +kernel) ?_
    refine Go.run (pc' := 51) [.iconst 1, .iconst 0] (ls' := [some (.ref a0)]) (st' := [.int (0 : Int32), .int (1 : Int32), .ref (fld a0 7)]) (by decide +kernel) rfl rfl ?_
    obtain ⟨g11, e⟩ := gd_inv e
    refine Go.bast hI (kf_8_7 k0) (al_8_7 k0) g11 (isB_vp (by decide)) (by decide +kernel) ?_
    obtain ⟨h12, q13, e⟩ := bd_inv e
    refine Go.eqH (Option.some.inj q13) ?_
    refine Go.run (pc' := 53) [.aload_n 0] (ls' := [some (.ref a0)]) (st' := [.ref a0]) (by decide +kernel) rfl rfl ?_
    refine Go.getI fo_M_165 k0 (by decide +kernel) ?_
    obtain rfl := Option.some.inj e
    exact Go.iret rfl (by decide) (by decide) (by decide +kernel)
  · replace e := ite_f c3 e
    refine Go.run (pc' := 21) [.iconst 0] (ls' := [some (.ref a0)]) (st' := [.int (0 : Int32)]) (by decide +kernel) rfl rfl ?_
    obtain rfl := Option.some.inj e
    exact Go.iret rfl (by decide) (by decide) (by decide +kernel)
def f_M_load (h : HP) (a0 : Nat) : Option (Int32 × HP) :=
  (f_M_readAll h a0).bind fun v1 =>
  if v1.1 = (-1 : Int32) then
    f_M_load_14 a0 a0 (0 : Int32) v1.2
  else
    f_M_load_14 a0 a0 (1 : Int32) v1.2
set_option maxHeartbeats 1000000 in
theorem x_M_load {l : Launch} {D : va_G} {ad : Nat → Nat} {aC : Nat → ClassId} (hf : l.flags = flags0) (hI : Inj ad) {h : HP} {a0 : Nat} {r : Int32 × HP} (k0 : knd a0 = 8) (e : f_M_load h a0 = some r) : CT l D ad aC m_M_load [.ref a0] h (.inl (some (.int r.1))) r.2 := by
  refine CT.ofGo (by decide +kernel) rfl (Nat.le_of_ble_eq_true rfl) ?_
  unfold f_M_load at e
  show Go l D ad aC (rmk m_M_load) _ m_M_load 0 [some (.ref a0)] [] h 0 0
  refine Go.run (pc' := 2) [.aload_n 0, .aload_n 0] (ls' := [some (.ref a0)]) (st' := [.ref a0, .ref a0]) (by decide +kernel) rfl rfl ?_
  obtain ⟨v1, e2, e⟩ := bd_inv e
  refine Go.callV (M2 := m_M_readAll) (a := a0) (as := []) (rest := [.ref a0]) (v := some (.int v1.1)) (h1 := v1.2) (x_M_readAll hf hI k0 e2) wv_M_224 k0 kc_8 (by decide +kernel) rfl rfl ⟨⟨Nat.le_of_ble_eq_true rfl, Nat.le_of_ble_eq_true rfl⟩, ⟨Nat.le_of_ble_eq_true rfl, Nat.le_of_ble_eq_true rfl⟩⟩ (Nat.le_of_ble_eq_true rfl) ?_
  show Go l D ad aC (rmk m_M_load) _ m_M_load 5 [some (.ref a0)] [.int v1.1, .ref a0] v1.2 0 0
  refine Go.run (pc' := 6) [.iconst (-1)] (ls' := [some (.ref a0)]) (st' := [.int (-1 : Int32), .int v1.1, .ref a0]) (by decide +kernel) rfl rfl ?_
  refine Go.ic_ne (off := 7) (tgt := 13) (by decide +kernel) (by decide) (fun c3 => ?_) (fun c3 => ?_)
  · replace e := ite_f c3 e
    refine Go.run (pc' := 14) [.iconst 1] (ls' := [some (.ref a0)]) (st' := [.int (1 : Int32), .ref a0]) (by decide +kernel) rfl rfl ?_
    exact x_M_load_14 hf hI k0 k0 e
  · replace e := ite_t c3 e
    refine Go.run (pc' := 10) [.iconst 0] (ls' := [some (.ref a0)]) (st' := [.int (0 : Int32), .ref a0]) (by decide +kernel) rfl rfl ?_
    refine Go.goto (off := 4) (tgt := 14) (by decide +kernel) (by decide) ?_
    exact x_M_load_14 hf hI k0 k0 e
def f_M_metres_4 (h : HP)  : Nat → Nat → Int32 → Int32 → Option (Int32)
  | 0, _, _, _ => none
  | n + 1, a0, x1, x2 =>
    if ib (184 : Int32) 196 = true then
    if (h a0 (184 : Int32).toNatClampNeg) ≤ x2 then
      some x1
    else
      (f_M_size h a0 x2).bind fun v3 =>
      f_M_metres_4 h n a0 (x1 + v3) (x2 + (1 : Int32))
    else none
set_option maxHeartbeats 1000000 in
theorem x_M_metres_4 {l : Launch} {D : va_G} {ad : Nat → Nat} {aC : Nat → ClassId} (hf : l.flags = flags0) (hI : Inj ad) {h : HP} : ∀ (n : Nat) {a0 : Nat} {x1 : Int32} {x2 : Int32} {r : Int32}, knd a0 = 10 → alen a0 = 196 → f_M_metres_4 h n a0 x1 x2 = some r → Go l D ad aC (rmk m_M_metres) (QM D ad aC m_M_metres (.inl (some (.int r))) h) m_M_metres 4 [some (.ref a0), some (.int x1), some (.int x2)] [] h 0 0 := by
  intro n
  induction n with
  | zero => intro a0 x1 x2 r k0 q0 e; exact no_none e
  | succ n ih =>
    intro a0 x1 x2 r k0 q0 e
    rw [f_M_metres_4] at e
    refine Go.run (pc' := 9) [.iload_n 2, .aload_n 0, .sipush (184)] (ls' := [some (.ref a0), some (.int x1), some (.int x2)]) (st' := [.int (184 : Int32), .ref a0, .int x2]) (by decide +kernel) rfl rfl ?_
    obtain ⟨g1, e⟩ := gd_inv e
    refine Go.iald k0 q0 g1 (by decide +kernel) ?_
    refine Go.ic_ge (off := 17) (tgt := 27) (by decide +kernel) (by decide) (fun c2 => ?_) (fun c2 => ?_)
    · replace e := ite_t c2 e
      refine Go.run (pc' := 28) [.iload_n 1] (ls' := [some (.ref a0), some (.int x1), some (.int x2)]) (st' := [.int x1]) (by decide +kernel) rfl rfl ?_
      obtain rfl := Option.some.inj e
      exact Go.iret rfl (by decide) (by decide) (by decide +kernel)
    · replace e := ite_f c2 e
      refine Go.run (pc' := 16) [.iload_n 1, .aload_n 0, .iload_n 2] (ls' := [some (.ref a0), some (.int x1), some (.int x2)]) (st' := [.int x2, .ref a0, .int x1]) (by decide +kernel) rfl rfl ?_
      obtain ⟨v3, e4, e⟩ := bd_inv e
      refine Go.callS (M2 := m_M_size) (as := [.ref a0, .int x2]) (rest := [.int x1]) (v := some (.int v3)) (h1 := h) (x_M_size hf hI k0 q0 e4) ws_M_75 (by decide +kernel) rfl rfl ⟨⟨Nat.le_of_ble_eq_true rfl, Nat.le_of_ble_eq_true rfl⟩, ⟨Nat.le_of_ble_eq_true rfl, Nat.le_of_ble_eq_true rfl⟩⟩ (Nat.le_of_ble_eq_true rfl) ?_
      show Go l D ad aC (rmk m_M_metres) _ m_M_metres 19 [some (.ref a0), some (.int x1), some (.int x2)] [.int v3, .int x1] h 0 0
      refine Go.run (pc' := 24) [.iadd, .istore_n 1, .iinc 2 (1)] (ls' := [some (.ref a0), some (.int (x1 + v3)), some (.int (x2 + (1 : Int32)))]) (st' := []) (by decide +kernel) rfl rfl ?_
      refine Go.goto (off := -20) (tgt := 4) (by decide +kernel) (by decide) ?_
      exact ih k0 q0 e
def f_M_metres (h : HP) (a0 : Nat) : Option (Int32) :=
  f_M_metres_4 h 4096 a0 (0 : Int32) (0 : Int32)
set_option maxHeartbeats 1000000 in
theorem x_M_metres {l : Launch} {D : va_G} {ad : Nat → Nat} {aC : Nat → ClassId} (hf : l.flags = flags0) (hI : Inj ad) {h : HP} {a0 : Nat} {r : Int32} (k0 : knd a0 = 10) (q0 : alen a0 = 196) (e : f_M_metres h a0 = some r) : CT l D ad aC m_M_metres [.ref a0] h (.inl (some (.int r))) h := by
  refine CT.ofGo (by decide +kernel) rfl (Nat.le_of_ble_eq_true rfl) ?_
  unfold f_M_metres at e
  show Go l D ad aC (rmk m_M_metres) _ m_M_metres 0 [some (.ref a0), none, none] [] h 0 0
  refine Go.run (pc' := 4) [.iconst 0, .istore_n 1, .iconst 0, .istore_n 2] (ls' := [some (.ref a0), some (.int (0 : Int32)), some (.int (0 : Int32))]) (st' := []) (by decide +kernel) rfl rfl ?_
  exact x_M_metres_4 hf hI 4096 k0 q0 e
def f_M_freeAt_29 (h : HP) (k4_ : Nat → Int32 → Int32 → Int32 → Option (Int32)) (a0 : Nat) (x1 : Int32) (x3 : Int32) (s0 : Int32) (s1 : Int32) : Option (Int32) :=
  k4_ a0 x1 (s0 + s1) (x3 + (1 : Int32))
set_option maxHeartbeats 1000000 in
theorem x_M_freeAt_29 {l : Launch} {D : va_G} {ad : Nat → Nat} {aC : Nat → ClassId} (hf : l.flags = flags0) (hI : Inj ad) {h : HP} {k4_ : Nat → Int32 → Int32 → Int32 → Option (Int32)} (K4_ : ∀ {a0 : Nat} {x1 : Int32} {x2 : Int32} {x3 : Int32} {r : Int32}, knd a0 = 10 → alen a0 = 196 → k4_ a0 x1 x2 x3 = some r → Go l D ad aC (rmk m_M_freeAt) (QM D ad aC m_M_freeAt (.inl (some (.int r))) h) m_M_freeAt 4 [some (.ref a0), some (.int x1), some (.int x2), some (.int x3)] [] h 0 0) {a0 : Nat} {x1 : Int32} {x3 : Int32} {s0 : Int32} {s1 : Int32} {r : Int32} (k0 : knd a0 = 10) (q0 : alen a0 = 196) (e : f_M_freeAt_29 h k4_ a0 x1 x3 s0 s1 = some r) : Go l D ad aC (rmk m_M_freeAt) (QM D ad aC m_M_freeAt (.inl (some (.int r))) h) m_M_freeAt 29 [some (.ref a0), some (.int x1), none, some (.int x3)] [.int s1, .int s0] h 0 0 := by
  unfold f_M_freeAt_29 at e
  refine Go.run (pc' := 34) [.iadd, .istore_n 2, .iinc 3 (1)] (ls' := [some (.ref a0), some (.int x1), some (.int (s0 + s1)), some (.int (x3 + (1 : Int32)))]) (st' := []) (by decide +kernel) rfl rfl ?_
  refine Go.goto (off := -30) (tgt := 4) (by decide +kernel) (by decide) ?_
  exact K4_ k0 q0 e
def f_M_freeAt_4 (h : HP)  : Nat → Nat → Int32 → Int32 → Int32 → Option (Int32)
  | 0, _, _, _, _ => none
  | n + 1, a0, x1, x2, x3 =>
    (f_M_size h a0 x1).bind fun v1 =>
    if v1 ≤ x3 then
      some x2
    else
      (f_M_standsAt h a0 x1 x3).bind fun v4 =>
      if v4 = (-1 : Int32) then
        f_M_freeAt_29 h (f_M_freeAt_4 h n) a0 x1 x3 x2 (1 : Int32)
      else
        f_M_freeAt_29 h (f_M_freeAt_4 h n) a0 x1 x3 x2 (0 : Int32)
set_option maxHeartbeats 1000000 in
theorem x_M_freeAt_4 {l : Launch} {D : va_G} {ad : Nat → Nat} {aC : Nat → ClassId} (hf : l.flags = flags0) (hI : Inj ad) {h : HP} : ∀ (n : Nat) {a0 : Nat} {x1 : Int32} {x2 : Int32} {x3 : Int32} {r : Int32}, knd a0 = 10 → alen a0 = 196 → f_M_freeAt_4 h n a0 x1 x2 x3 = some r → Go l D ad aC (rmk m_M_freeAt) (QM D ad aC m_M_freeAt (.inl (some (.int r))) h) m_M_freeAt 4 [some (.ref a0), some (.int x1), some (.int x2), some (.int x3)] [] h 0 0 := by
  intro n
  induction n with
  | zero => intro a0 x1 x2 x3 r k0 q0 e; exact no_none e
  | succ n ih =>
    intro a0 x1 x2 x3 r k0 q0 e
    rw [f_M_freeAt_4] at e
    refine Go.run (pc' := 7) [.iload_n 3, .aload_n 0, .iload_n 1] (ls' := [some (.ref a0), some (.int x1), some (.int x2), some (.int x3)]) (st' := [.int x1, .ref a0, .int x3]) (by decide +kernel) rfl rfl ?_
    obtain ⟨v1, e2, e⟩ := bd_inv e
    refine Go.callS (M2 := m_M_size) (as := [.ref a0, .int x1]) (rest := [.int x3]) (v := some (.int v1)) (h1 := h) (x_M_size hf hI k0 q0 e2) ws_M_75 (by decide +kernel) rfl rfl ⟨⟨Nat.le_of_ble_eq_true rfl, Nat.le_of_ble_eq_true rfl⟩, ⟨Nat.le_of_ble_eq_true rfl, Nat.le_of_ble_eq_true rfl⟩⟩ (Nat.le_of_ble_eq_true rfl) ?_
    show Go l D ad aC (rmk m_M_freeAt) _ m_M_freeAt 10 [some (.ref a0), some (.int x1), some (.int x2), some (.int x3)] [.int v1, .int x3] h 0 0
    refine Go.ic_ge (off := 27) (tgt := 37) (by decide +kernel) (by decide) (fun c3 => ?_) (fun c3 => ?_)
    · replace e := ite_t c3 e
      refine Go.run (pc' := 38) [.iload_n 2] (ls' := [some (.ref a0), some (.int x1), some (.int x2), some (.int x3)]) (st' := [.int x2]) (by decide +kernel) rfl rfl ?_
      obtain rfl := Option.some.inj e
      exact Go.iret rfl (by decide) (by decide) (by decide +kernel)
    · replace e := ite_f c3 e
      refine Go.run (pc' := 17) [.iload_n 2, .aload_n 0, .iload_n 1, .iload_n 3] (ls' := [some (.ref a0), some (.int x1), some (.int x2), some (.int x3)]) (st' := [.int x3, .int x1, .ref a0, .int x2]) (by decide +kernel) rfl rfl ?_
      obtain ⟨v4, e5, e⟩ := bd_inv e
      refine Go.callS (M2 := m_M_standsAt) (as := [.ref a0, .int x1, .int x3]) (rest := [.int x2]) (v := some (.int v4)) (h1 := h) (x_M_standsAt hf hI k0 q0 e5) ws_M_79 (by decide +kernel) rfl rfl ⟨⟨Nat.le_of_ble_eq_true rfl, Nat.le_of_ble_eq_true rfl⟩, ⟨Nat.le_of_ble_eq_true rfl, Nat.le_of_ble_eq_true rfl⟩⟩ (Nat.le_of_ble_eq_true rfl) ?_
      show Go l D ad aC (rmk m_M_freeAt) _ m_M_freeAt 20 [some (.ref a0), some (.int x1), some (.int x2), some (.int x3)] [.int v4, .int x2] h 0 0
      refine Go.run (pc' := 21) [.iconst (-1)] (ls' := [some (.ref a0), some (.int x1), some (.int x2), some (.int x3)]) (st' := [.int (-1 : Int32), .int v4, .int x2]) (by decide +kernel) rfl rfl ?_
      refine Go.ic_ne (off := 7) (tgt := 28) (by decide +kernel) (by decide) (fun c6 => ?_) (fun c6 => ?_)
      · replace e := ite_f c6 e
        refine Go.run (pc' := 29) [.iconst 0] (ls' := [some (.ref a0), some (.int x1), some (.int x2), some (.int x3)]) (st' := [.int (0 : Int32), .int x2]) (by decide +kernel) rfl rfl ?_
        refine Go.wk' (wks (wks (wkn (wks wk0)))) ?_
        exact x_M_freeAt_29 hf hI (fun kk0 qq0 e => ih kk0 qq0 e) k0 q0 e
      · replace e := ite_t c6 e
        refine Go.run (pc' := 25) [.iconst 1] (ls' := [some (.ref a0), some (.int x1), some (.int x2), some (.int x3)]) (st' := [.int (1 : Int32), .int x2]) (by decide +kernel) rfl rfl ?_
        refine Go.goto (off := 4) (tgt := 29) (by decide +kernel) (by decide) ?_
        refine Go.wk' (wks (wks (wkn (wks wk0)))) ?_
        exact x_M_freeAt_29 hf hI (fun kk0 qq0 e => ih kk0 qq0 e) k0 q0 e
def f_M_freeAt (h : HP) (a0 : Nat) (x1 : Int32) : Option (Int32) :=
  f_M_freeAt_4 h 4096 a0 x1 (0 : Int32) (0 : Int32)
set_option maxHeartbeats 1000000 in
theorem x_M_freeAt {l : Launch} {D : va_G} {ad : Nat → Nat} {aC : Nat → ClassId} (hf : l.flags = flags0) (hI : Inj ad) {h : HP} {a0 : Nat} {x1 : Int32} {r : Int32} (k0 : knd a0 = 10) (q0 : alen a0 = 196) (e : f_M_freeAt h a0 x1 = some r) : CT l D ad aC m_M_freeAt [.ref a0, .int x1] h (.inl (some (.int r))) h := by
  refine CT.ofGo (by decide +kernel) rfl (Nat.le_of_ble_eq_true rfl) ?_
  unfold f_M_freeAt at e
  show Go l D ad aC (rmk m_M_freeAt) _ m_M_freeAt 0 [some (.ref a0), some (.int x1), none, none] [] h 0 0
  refine Go.run (pc' := 4) [.iconst 0, .istore_n 2, .iconst 0, .istore_n 3] (ls' := [some (.ref a0), some (.int x1), some (.int (0 : Int32)), some (.int (0 : Int32))]) (st' := []) (by decide +kernel) rfl rfl ?_
  exact x_M_freeAt_4 hf hI 4096 k0 q0 e
def f_M_plugsAt_4 (h : HP)  : Nat → Nat → Int32 → Int32 → Int32 → Option (Int32)
  | 0, _, _, _, _ => none
  | n + 1, a0, x1, x2, x3 =>
    (f_M_size h a0 x1).bind fun v1 =>
    if v1 ≤ x3 then
      some x2
    else
      (f_M_plugs h a0 x1 x3).bind fun v4 =>
      f_M_plugsAt_4 h n a0 x1 (x2 + v4) (x3 + (1 : Int32))
set_option maxHeartbeats 1000000 in
theorem x_M_plugsAt_4 {l : Launch} {D : va_G} {ad : Nat → Nat} {aC : Nat → ClassId} (hf : l.flags = flags0) (hI : Inj ad) {h : HP} : ∀ (n : Nat) {a0 : Nat} {x1 : Int32} {x2 : Int32} {x3 : Int32} {r : Int32}, knd a0 = 10 → alen a0 = 196 → f_M_plugsAt_4 h n a0 x1 x2 x3 = some r → Go l D ad aC (rmk m_M_plugsAt) (QM D ad aC m_M_plugsAt (.inl (some (.int r))) h) m_M_plugsAt 4 [some (.ref a0), some (.int x1), some (.int x2), some (.int x3)] [] h 0 0 := by
  intro n
  induction n with
  | zero => intro a0 x1 x2 x3 r k0 q0 e; exact no_none e
  | succ n ih =>
    intro a0 x1 x2 x3 r k0 q0 e
    rw [f_M_plugsAt_4] at e
    refine Go.run (pc' := 7) [.iload_n 3, .aload_n 0, .iload_n 1] (ls' := [some (.ref a0), some (.int x1), some (.int x2), some (.int x3)]) (st' := [.int x1, .ref a0, .int x3]) (by decide +kernel) rfl rfl ?_
    obtain ⟨v1, e2, e⟩ := bd_inv e
    refine Go.callS (M2 := m_M_size) (as := [.ref a0, .int x1]) (rest := [.int x3]) (v := some (.int v1)) (h1 := h) (x_M_size hf hI k0 q0 e2) ws_M_75 (by decide +kernel) rfl rfl ⟨⟨Nat.le_of_ble_eq_true rfl, Nat.le_of_ble_eq_true rfl⟩, ⟨Nat.le_of_ble_eq_true rfl, Nat.le_of_ble_eq_true rfl⟩⟩ (Nat.le_of_ble_eq_true rfl) ?_
    show Go l D ad aC (rmk m_M_plugsAt) _ m_M_plugsAt 10 [some (.ref a0), some (.int x1), some (.int x2), some (.int x3)] [.int v1, .int x3] h 0 0
    refine Go.ic_ge (off := 18) (tgt := 28) (by decide +kernel) (by decide) (fun c3 => ?_) (fun c3 => ?_)
    · replace e := ite_t c3 e
      refine Go.run (pc' := 29) [.iload_n 2] (ls' := [some (.ref a0), some (.int x1), some (.int x2), some (.int x3)]) (st' := [.int x2]) (by decide +kernel) rfl rfl ?_
      obtain rfl := Option.some.inj e
      exact Go.iret rfl (by decide) (by decide) (by decide +kernel)
    · replace e := ite_f c3 e
      refine Go.run (pc' := 17) [.iload_n 2, .aload_n 0, .iload_n 1, .iload_n 3] (ls' := [some (.ref a0), some (.int x1), some (.int x2), some (.int x3)]) (st' := [.int x3, .int x1, .ref a0, .int x2]) (by decide +kernel) rfl rfl ?_
      obtain ⟨v4, e5, e⟩ := bd_inv e
      refine Go.callS (M2 := m_M_plugs) (as := [.ref a0, .int x1, .int x3]) (rest := [.int x2]) (v := some (.int v4)) (h1 := h) (x_M_plugs hf hI k0 q0 e5) ws_M_83 (by decide +kernel) rfl rfl ⟨⟨Nat.le_of_ble_eq_true rfl, Nat.le_of_ble_eq_true rfl⟩, ⟨Nat.le_of_ble_eq_true rfl, Nat.le_of_ble_eq_true rfl⟩⟩ (Nat.le_of_ble_eq_true rfl) ?_
      show Go l D ad aC (rmk m_M_plugsAt) _ m_M_plugsAt 20 [some (.ref a0), some (.int x1), some (.int x2), some (.int x3)] [.int v4, .int x2] h 0 0
      refine Go.run (pc' := 25) [.iadd, .istore_n 2, .iinc 3 (1)] (ls' := [some (.ref a0), some (.int x1), some (.int (x2 + v4)), some (.int (x3 + (1 : Int32)))]) (st' := []) (by decide +kernel) rfl rfl ?_
      refine Go.goto (off := -21) (tgt := 4) (by decide +kernel) (by decide) ?_
      exact ih k0 q0 e
def f_M_plugsAt (h : HP) (a0 : Nat) (x1 : Int32) : Option (Int32) :=
  f_M_plugsAt_4 h 4096 a0 x1 (0 : Int32) (0 : Int32)
set_option maxHeartbeats 1000000 in
theorem x_M_plugsAt {l : Launch} {D : va_G} {ad : Nat → Nat} {aC : Nat → ClassId} (hf : l.flags = flags0) (hI : Inj ad) {h : HP} {a0 : Nat} {x1 : Int32} {r : Int32} (k0 : knd a0 = 10) (q0 : alen a0 = 196) (e : f_M_plugsAt h a0 x1 = some r) : CT l D ad aC m_M_plugsAt [.ref a0, .int x1] h (.inl (some (.int r))) h := by
  refine CT.ofGo (by decide +kernel) rfl (Nat.le_of_ble_eq_true rfl) ?_
  unfold f_M_plugsAt at e
  show Go l D ad aC (rmk m_M_plugsAt) _ m_M_plugsAt 0 [some (.ref a0), some (.int x1), none, none] [] h 0 0
  refine Go.run (pc' := 4) [.iconst 0, .istore_n 2, .iconst 0, .istore_n 3] (ls' := [some (.ref a0), some (.int x1), some (.int (0 : Int32)), some (.int (0 : Int32))]) (st' := []) (by decide +kernel) rfl rfl ?_
  exact x_M_plugsAt_4 hf hI 4096 k0 q0 e
def f_M_standing_27 (h : HP) (k4_ : Nat → Int32 → Int32 → Option (Int32)) (a0 : Nat) (x2 : Int32) (s0 : Int32) (s1 : Int32) : Option (Int32) :=
  k4_ a0 (s0 + s1) (x2 + (1 : Int32))
set_option maxHeartbeats 1000000 in
theorem x_M_standing_27 {l : Launch} {D : va_G} {ad : Nat → Nat} {aC : Nat → ClassId} (hf : l.flags = flags0) (hI : Inj ad) {h : HP} {k4_ : Nat → Int32 → Int32 → Option (Int32)} (K4_ : ∀ {a0 : Nat} {x1 : Int32} {x2 : Int32} {r : Int32}, knd a0 = 10 → alen a0 = 196 → k4_ a0 x1 x2 = some r → Go l D ad aC (rmk m_M_standing) (QM D ad aC m_M_standing (.inl (some (.int r))) h) m_M_standing 4 [some (.ref a0), some (.int x1), some (.int x2)] [] h 0 0) {a0 : Nat} {x2 : Int32} {s0 : Int32} {s1 : Int32} {r : Int32} (k0 : knd a0 = 10) (q0 : alen a0 = 196) (e : f_M_standing_27 h k4_ a0 x2 s0 s1 = some r) : Go l D ad aC (rmk m_M_standing) (QM D ad aC m_M_standing (.inl (some (.int r))) h) m_M_standing 27 [some (.ref a0), none, some (.int x2)] [.int s1, .int s0] h 0 0 := by
  unfold f_M_standing_27 at e
  refine Go.run (pc' := 32) [.iadd, .istore_n 1, .iinc 2 (1)] (ls' := [some (.ref a0), some (.int (s0 + s1)), some (.int (x2 + (1 : Int32)))]) (st' := []) (by decide +kernel) rfl rfl ?_
  refine Go.goto (off := -28) (tgt := 4) (by decide +kernel) (by decide) ?_
  exact K4_ k0 q0 e
def f_M_standing_4 (h : HP)  : Nat → Nat → Int32 → Int32 → Option (Int32)
  | 0, _, _, _ => none
  | n + 1, a0, x1, x2 =>
    if ib (185 : Int32) 196 = true then
    if (h a0 (185 : Int32).toNatClampNeg) ≤ x2 then
      some x1
    else
      (f_M_stands h a0 x2).bind fun v3 =>
      if v3 = 0 then
        f_M_standing_27 h (f_M_standing_4 h n) a0 x2 x1 (0 : Int32)
      else
        f_M_standing_27 h (f_M_standing_4 h n) a0 x2 x1 (1 : Int32)
    else none
set_option maxHeartbeats 1000000 in
theorem x_M_standing_4 {l : Launch} {D : va_G} {ad : Nat → Nat} {aC : Nat → ClassId} (hf : l.flags = flags0) (hI : Inj ad) {h : HP} : ∀ (n : Nat) {a0 : Nat} {x1 : Int32} {x2 : Int32} {r : Int32}, knd a0 = 10 → alen a0 = 196 → f_M_standing_4 h n a0 x1 x2 = some r → Go l D ad aC (rmk m_M_standing) (QM D ad aC m_M_standing (.inl (some (.int r))) h) m_M_standing 4 [some (.ref a0), some (.int x1), some (.int x2)] [] h 0 0 := by
  intro n
  induction n with
  | zero => intro a0 x1 x2 r k0 q0 e; exact no_none e
  | succ n ih =>
    intro a0 x1 x2 r k0 q0 e
    rw [f_M_standing_4] at e
    refine Go.run (pc' := 9) [.iload_n 2, .aload_n 0, .sipush (185)] (ls' := [some (.ref a0), some (.int x1), some (.int x2)]) (st' := [.int (185 : Int32), .ref a0, .int x2]) (by decide +kernel) rfl rfl ?_
    obtain ⟨g1, e⟩ := gd_inv e
    refine Go.iald k0 q0 g1 (by decide +kernel) ?_
    refine Go.ic_ge (off := 25) (tgt := 35) (by decide +kernel) (by decide) (fun c2 => ?_) (fun c2 => ?_)
    · replace e := ite_t c2 e
      refine Go.run (pc' := 36) [.iload_n 1] (ls' := [some (.ref a0), some (.int x1), some (.int x2)]) (st' := [.int x1]) (by decide +kernel) rfl rfl ?_
      obtain rfl := Option.some.inj e
      exact Go.iret rfl (by decide) (by decide) (by decide +kernel)
    · replace e := ite_f c2 e
      refine Go.run (pc' := 16) [.iload_n 1, .aload_n 0, .iload_n 2] (ls' := [some (.ref a0), some (.int x1), some (.int x2)]) (st' := [.int x2, .ref a0, .int x1]) (by decide +kernel) rfl rfl ?_
      obtain ⟨v3, e4, e⟩ := bd_inv e
      refine Go.callS (M2 := m_M_stands) (as := [.ref a0, .int x2]) (rest := [.int x1]) (v := some (.int v3)) (h1 := h) (x_M_stands hf hI k0 q0 e4) ws_M_89 (by decide +kernel) rfl rfl ⟨⟨Nat.le_of_ble_eq_true rfl, Nat.le_of_ble_eq_true rfl⟩, ⟨Nat.le_of_ble_eq_true rfl, Nat.le_of_ble_eq_true rfl⟩⟩ (Nat.le_of_ble_eq_true rfl) ?_
      show Go l D ad aC (rmk m_M_standing) _ m_M_standing 19 [some (.ref a0), some (.int x1), some (.int x2)] [.int v3, .int x1] h 0 0
      refine Go.if_eq (off := 7) (tgt := 26) (by decide +kernel) (by decide) (fun c5 => ?_) (fun c5 => ?_)
      · replace e := ite_t c5 e
        refine Go.run (pc' := 27) [.iconst 0] (ls' := [some (.ref a0), some (.int x1), some (.int x2)]) (st' := [.int (0 : Int32), .int x1]) (by decide +kernel) rfl rfl ?_
        refine Go.wk' (wks (wkn (wks wk0))) ?_
        exact x_M_standing_27 hf hI (fun kk0 qq0 e => ih kk0 qq0 e) k0 q0 e
      · replace e := ite_f c5 e
        refine Go.run (pc' := 23) [.iconst 1] (ls' := [some (.ref a0), some (.int x1), some (.int x2)]) (st' := [.int (1 : Int32), .int x1]) (by decide +kernel) rfl rfl ?_
        refine Go.goto (off := 4) (tgt := 27) (by decide +kernel) (by decide) ?_
        refine Go.wk' (wks (wkn (wks wk0))) ?_
        exact x_M_standing_27 hf hI (fun kk0 qq0 e => ih kk0 qq0 e) k0 q0 e
def f_M_standing (h : HP) (a0 : Nat) : Option (Int32) :=
  f_M_standing_4 h 4096 a0 (0 : Int32) (0 : Int32)
set_option maxHeartbeats 1000000 in
theorem x_M_standing {l : Launch} {D : va_G} {ad : Nat → Nat} {aC : Nat → ClassId} (hf : l.flags = flags0) (hI : Inj ad) {h : HP} {a0 : Nat} {r : Int32} (k0 : knd a0 = 10) (q0 : alen a0 = 196) (e : f_M_standing h a0 = some r) : CT l D ad aC m_M_standing [.ref a0] h (.inl (some (.int r))) h := by
  refine CT.ofGo (by decide +kernel) rfl (Nat.le_of_ble_eq_true rfl) ?_
  unfold f_M_standing at e
  show Go l D ad aC (rmk m_M_standing) _ m_M_standing 0 [some (.ref a0), none, none] [] h 0 0
  refine Go.run (pc' := 4) [.iconst 0, .istore_n 1, .iconst 0, .istore_n 2] (ls' := [some (.ref a0), some (.int (0 : Int32)), some (.int (0 : Int32))]) (st' := []) (by decide +kernel) rfl rfl ?_
  exact x_M_standing_4 hf hI 4096 k0 q0 e
def f_M_sumWalls_40 (h : HP) (k4_ : Nat → Int32 → Int32 → Int32 → Option (Int32)) (a0 : Nat) (x1 : Int32) (x3 : Int32) (s0 : Int32) (s1 : Int32) : Option (Int32) :=
  k4_ a0 x1 (s0 + s1) (x3 + (1 : Int32))
set_option maxHeartbeats 1000000 in
theorem x_M_sumWalls_40 {l : Launch} {D : va_G} {ad : Nat → Nat} {aC : Nat → ClassId} (hf : l.flags = flags0) (hI : Inj ad) {h : HP} {k4_ : Nat → Int32 → Int32 → Int32 → Option (Int32)} (K4_ : ∀ {a0 : Nat} {x1 : Int32} {x2 : Int32} {x3 : Int32} {r : Int32}, knd a0 = 8 → k4_ a0 x1 x2 x3 = some r → Go l D ad aC (rmk m_M_sumWalls) (QM D ad aC m_M_sumWalls (.inl (some (.int r))) h) m_M_sumWalls 4 [some (.ref a0), some (.int x1), some (.int x2), some (.int x3)] [] h 0 0) {a0 : Nat} {x1 : Int32} {x3 : Int32} {s0 : Int32} {s1 : Int32} {r : Int32} (k0 : knd a0 = 8) (e : f_M_sumWalls_40 h k4_ a0 x1 x3 s0 s1 = some r) : Go l D ad aC (rmk m_M_sumWalls) (QM D ad aC m_M_sumWalls (.inl (some (.int r))) h) m_M_sumWalls 40 [some (.ref a0), some (.int x1), none, some (.int x3)] [.int s1, .int s0] h 0 0 := by
  unfold f_M_sumWalls_40 at e
  refine Go.run (pc' := 45) [.iadd, .istore_n 2, .iinc 3 (1)] (ls' := [some (.ref a0), some (.int x1), some (.int (s0 + s1)), some (.int (x3 + (1 : Int32)))]) (st' := []) (by decide +kernel) rfl rfl ?_
  refine Go.goto (off := -41) (tgt := 4) (by decide +kernel) (by decide) ?_
  exact K4_ k0 e
def f_M_sumWalls_4 (h : HP)  : Nat → Nat → Int32 → Int32 → Int32 → Option (Int32)
  | 0, _, _, _, _ => none
  | n + 1, a0, x1, x2, x3 =>
    if ib (184 : Int32) 196 = true then
    if (h (fld a0 1) (184 : Int32).toNatClampNeg) ≤ x3 then
      some x2
    else
      if x1 = 0 then
        (f_M_freeAt h (fld a0 1) x3).bind fun v6 =>
        f_M_sumWalls_40 h (f_M_sumWalls_4 h n) a0 x1 x3 x2 v6
      else
        (f_M_plugsAt h (fld a0 1) x3).bind fun v4 =>
        f_M_sumWalls_40 h (f_M_sumWalls_4 h n) a0 x1 x3 x2 v4
    else none
set_option maxHeartbeats 1000000 in
theorem x_M_sumWalls_4 {l : Launch} {D : va_G} {ad : Nat → Nat} {aC : Nat → ClassId} (hf : l.flags = flags0) (hI : Inj ad) {h : HP} : ∀ (n : Nat) {a0 : Nat} {x1 : Int32} {x2 : Int32} {x3 : Int32} {r : Int32}, knd a0 = 8 → f_M_sumWalls_4 h n a0 x1 x2 x3 = some r → Go l D ad aC (rmk m_M_sumWalls) (QM D ad aC m_M_sumWalls (.inl (some (.int r))) h) m_M_sumWalls 4 [some (.ref a0), some (.int x1), some (.int x2), some (.int x3)] [] h 0 0 := by
  intro n
  induction n with
  | zero => intro a0 x1 x2 x3 r k0 e; exact no_none e
  | succ n ih =>
    intro a0 x1 x2 x3 r k0 e
    rw [f_M_sumWalls_4] at e
    refine Go.run (pc' := 6) [.iload_n 3, .aload_n 0] (ls' := [some (.ref a0), some (.int x1), some (.int x2), some (.int x3)]) (st' := [.ref a0, .int x3]) (by decide +kernel) rfl rfl ?_
    refine Go.getR fo_M_7 k0 (by decide +kernel) ?_
    refine Go.run (pc' := 12) [.sipush (184)] (ls' := [some (.ref a0), some (.int x1), some (.int x2), some (.int x3)]) (st' := [.int (184 : Int32), .ref (fld a0 1), .int x3]) (by decide +kernel) rfl rfl ?_
    obtain ⟨g1, e⟩ := gd_inv e
    refine Go.iald (kf_8_j 1 k0 (by decide) (by decide)) (al_8_j 1 k0 (by decide) (by decide) rfl) g1 (by decide +kernel) ?_
    refine Go.ic_ge (off := 35) (tgt := 48) (by decide +kernel) (by decide) (fun c2 => ?_) (fun c2 => ?_)
    · replace e := ite_t c2 e
      refine Go.run (pc' := 49) [.iload_n 2] (ls' := [some (.ref a0), some (.int x1), some (.int x2), some (.int x3)]) (st' := [.int x2]) (by decide +kernel) rfl rfl ?_
      obtain rfl := Option.some.inj e
      exact Go.iret rfl (by decide) (by decide) (by decide +kernel)
    · replace e := ite_f c2 e
      refine Go.run (pc' := 18) [.iload_n 2, .iload_n 1] (ls' := [some (.ref a0), some (.int x1), some (.int x2), some (.int x3)]) (st' := [.int x1, .int x2]) (by decide +kernel) rfl rfl ?_
      refine Go.if_ne (off := 14) (tgt := 32) (by decide +kernel) (by decide) (fun c3 => ?_) (fun c3 => ?_)
      · replace e := ite_f c3 e
        refine Go.run (pc' := 33) [.aload_n 0] (ls' := [some (.ref a0), some (.int x1), some (.int x2), some (.int x3)]) (st' := [.ref a0, .int x2]) (by decide +kernel) rfl rfl ?_
        refine Go.getR fo_M_7 k0 (by decide +kernel) ?_
        refine Go.run (pc' := 37) [.iload_n 3] (ls' := [some (.ref a0), some (.int x1), some (.int x2), some (.int x3)]) (st' := [.int x3, .ref (fld a0 1), .int x2]) (by decide +kernel) rfl rfl ?_
        obtain ⟨v4, e5, e⟩ := bd_inv e
        refine Go.callS (M2 := m_M_plugsAt) (as := [.ref (fld a0 1), .int x3]) (rest := [.int x2]) (v := some (.int v4)) (h1 := h) (x_M_plugsAt hf hI (kf_8_j 1 k0 (by decide) (by decide)) (al_8_j 1 k0 (by decide) (by decide) rfl) e5) ws_M_234 (by decide +kernel) rfl rfl ⟨⟨Nat.le_of_ble_eq_true rfl, Nat.le_of_ble_eq_true rfl⟩, ⟨Nat.le_of_ble_eq_true rfl, Nat.le_of_ble_eq_true rfl⟩⟩ (Nat.le_of_ble_eq_true rfl) ?_
        show Go l D ad aC (rmk m_M_sumWalls) _ m_M_sumWalls 40 [some (.ref a0), some (.int x1), some (.int x2), some (.int x3)] [.int v4, .int x2] h 0 0
        refine Go.wk' (wks (wks (wkn (wks wk0)))) ?_
        exact x_M_sumWalls_40 hf hI (fun kk0 e => ih kk0 e) k0 e
      · replace e := ite_t c3 e
        refine Go.run (pc' := 22) [.aload_n 0] (ls' := [some (.ref a0), some (.int x1), some (.int x2), some (.int x3)]) (st' := [.ref a0, .int x2]) (by decide +kernel) rfl rfl ?_
        refine Go.getR fo_M_7 k0 (by decide +kernel) ?_
        refine Go.run (pc' := 26) [.iload_n 3] (ls' := [some (.ref a0), some (.int x1), some (.int x2), some (.int x3)]) (st' := [.int x3, .ref (fld a0 1), .int x2]) (by decide +kernel) rfl rfl ?_
        obtain ⟨v6, e7, e⟩ := bd_inv e
        refine Go.callS (M2 := m_M_freeAt) (as := [.ref (fld a0 1), .int x3]) (rest := [.int x2]) (v := some (.int v6)) (h1 := h) (x_M_freeAt hf hI (kf_8_j 1 k0 (by decide) (by decide)) (al_8_j 1 k0 (by decide) (by decide) rfl) e7) ws_M_231 (by decide +kernel) rfl rfl ⟨⟨Nat.le_of_ble_eq_true rfl, Nat.le_of_ble_eq_true rfl⟩, ⟨Nat.le_of_ble_eq_true rfl, Nat.le_of_ble_eq_true rfl⟩⟩ (Nat.le_of_ble_eq_true rfl) ?_
        show Go l D ad aC (rmk m_M_sumWalls) _ m_M_sumWalls 29 [some (.ref a0), some (.int x1), some (.int x2), some (.int x3)] [.int v6, .int x2] h 0 0
        refine Go.goto (off := 11) (tgt := 40) (by decide +kernel) (by decide) ?_
        refine Go.wk' (wks (wks (wkn (wks wk0)))) ?_
        exact x_M_sumWalls_40 hf hI (fun kk0 e => ih kk0 e) k0 e
def f_M_sumWalls (h : HP) (a0 : Nat) (x1 : Int32) : Option (Int32) :=
  f_M_sumWalls_4 h 4096 a0 x1 (0 : Int32) (0 : Int32)
set_option maxHeartbeats 1000000 in
theorem x_M_sumWalls {l : Launch} {D : va_G} {ad : Nat → Nat} {aC : Nat → ClassId} (hf : l.flags = flags0) (hI : Inj ad) {h : HP} {a0 : Nat} {x1 : Int32} {r : Int32} (k0 : knd a0 = 8) (e : f_M_sumWalls h a0 x1 = some r) : CT l D ad aC m_M_sumWalls [.ref a0, .int x1] h (.inl (some (.int r))) h := by
  refine CT.ofGo (by decide +kernel) rfl (Nat.le_of_ble_eq_true rfl) ?_
  unfold f_M_sumWalls at e
  show Go l D ad aC (rmk m_M_sumWalls) _ m_M_sumWalls 0 [some (.ref a0), some (.int x1), none, none] [] h 0 0
  refine Go.run (pc' := 4) [.iconst 0, .istore_n 2, .iconst 0, .istore_n 3] (ls' := [some (.ref a0), some (.int x1), some (.int (0 : Int32)), some (.int (0 : Int32))]) (st' := []) (by decide +kernel) rfl rfl ?_
  exact x_M_sumWalls_4 hf hI 4096 k0 e
def f_M_sumDealers_64 (k12_ : Nat → Int32 → Int32 → Int32 → HP → Option (Int32 × HP)) (a0 : Nat) (x1 : Int32) (x3 : Int32) (s0 : Int32) (s1 : Int32) (h : HP) : Option (Int32 × HP) :=
  k12_ a0 x1 (s0 + s1) (x3 + (1 : Int32)) h
set_option maxHeartbeats 1000000 in
theorem x_M_sumDealers_64 {l : Launch} {D : va_G} {ad : Nat → Nat} {aC : Nat → ClassId} (hf : l.flags = flags0) (hI : Inj ad) {k12_ : Nat → Int32 → Int32 → Int32 → HP → Option (Int32 × HP)} (K12_ : ∀ {a0 : Nat} {x1 : Int32} {x2 : Int32} {x3 : Int32} {h : HP} {r : Int32 × HP}, knd a0 = 8 → k12_ a0 x1 x2 x3 h = some r → Go l D ad aC (rmk m_M_sumDealers) (QM D ad aC m_M_sumDealers (.inl (some (.int r.1))) r.2) m_M_sumDealers 12 [some (.ref a0), some (.int x1), some (.int x2), some (.int x3)] [] h 0 0) {a0 : Nat} {x1 : Int32} {x3 : Int32} {s0 : Int32} {s1 : Int32} {h : HP} {r : Int32 × HP} (k0 : knd a0 = 8) (e : f_M_sumDealers_64 k12_ a0 x1 x3 s0 s1 h = some r) : Go l D ad aC (rmk m_M_sumDealers) (QM D ad aC m_M_sumDealers (.inl (some (.int r.1))) r.2) m_M_sumDealers 64 [some (.ref a0), some (.int x1), none, some (.int x3)] [.int s1, .int s0] h 0 0 := by
  unfold f_M_sumDealers_64 at e
  refine Go.run (pc' := 69) [.iadd, .istore_n 2, .iinc 3 (1)] (ls' := [some (.ref a0), some (.int x1), some (.int (s0 + s1)), some (.int (x3 + (1 : Int32)))]) (st' := []) (by decide +kernel) rfl rfl ?_
  refine Go.goto (off := -57) (tgt := 12) (by decide +kernel) (by decide) ?_
  exact K12_ k0 e
def f_M_sumDealers_12  : Nat → Nat → Int32 → Int32 → Int32 → HP → Option (Int32 × HP)
  | 0, _, _, _, _, _ => none
  | n + 1, a0, x1, x2, x3, h =>
    if ib (185 : Int32) 196 = true then
    if (h (fld a0 1) (185 : Int32).toNatClampNeg) ≤ x3 then
      some (x2, h)
    else
      if x1 = 0 then
        if ib x3 10 = true then
        f_M_sumDealers_64 (f_M_sumDealers_12 n) a0 x1 x3 x2 (h (fld a0 9) x3.toNatClampNeg) h
        else none
      else
        if x1 = (1 : Int32) then
          (f_M_lacks h a0 (fld a0 1) x3).bind fun v7 =>
          f_M_sumDealers_64 (f_M_sumDealers_12 n) a0 x1 x3 x2 v7 h
        else
          (f_M_neighbours h (fld a0 1) x3 (1 : Int32)).bind fun v5 =>
          f_M_sumDealers_64 (f_M_sumDealers_12 n) a0 x1 x3 x2 v5 h
    else none
set_option maxHeartbeats 1000000 in
theorem x_M_sumDealers_12 {l : Launch} {D : va_G} {ad : Nat → Nat} {aC : Nat → ClassId} (hf : l.flags = flags0) (hI : Inj ad) : ∀ (n : Nat) {a0 : Nat} {x1 : Int32} {x2 : Int32} {x3 : Int32} {h : HP} {r : Int32 × HP}, knd a0 = 8 → f_M_sumDealers_12 n a0 x1 x2 x3 h = some r → Go l D ad aC (rmk m_M_sumDealers) (QM D ad aC m_M_sumDealers (.inl (some (.int r.1))) r.2) m_M_sumDealers 12 [some (.ref a0), some (.int x1), some (.int x2), some (.int x3)] [] h 0 0 := by
  intro n
  induction n with
  | zero => intro a0 x1 x2 x3 h r k0 e; exact no_none e
  | succ n ih =>
    intro a0 x1 x2 x3 h r k0 e
    rw [f_M_sumDealers_12] at e
    refine Go.run (pc' := 14) [.iload_n 3, .aload_n 0] (ls' := [some (.ref a0), some (.int x1), some (.int x2), some (.int x3)]) (st' := [.ref a0, .int x3]) (by decide +kernel) rfl rfl ?_
    refine Go.getR fo_M_7 k0 (by decide +kernel) ?_
    refine Go.run (pc' := 20) [.sipush (185)] (ls' := [some (.ref a0), some (.int x1), some (.int x2), some (.int x3)]) (st' := [.int (185 : Int32), .ref (fld a0 1), .int x3]) (by decide +kernel) rfl rfl ?_
    obtain ⟨g1, e⟩ := gd_inv e
    refine Go.iald (kf_8_j 1 k0 (by decide) (by decide)) (al_8_j 1 k0 (by decide) (by decide) rfl) g1 (by decide +kernel) ?_
    refine Go.ic_ge (off := 51) (tgt := 72) (by decide +kernel) (by decide) (fun c2 => ?_) (fun c2 => ?_)
    · replace e := ite_t c2 e
      refine Go.run (pc' := 73) [.iload_n 2] (ls' := [some (.ref a0), some (.int x1), some (.int x2), some (.int x3)]) (st' := [.int x2]) (by decide +kernel) rfl rfl ?_
      obtain rfl := Option.some.inj e
      exact Go.iret rfl (by decide) (by decide) (by decide +kernel)
    · replace e := ite_f c2 e
      refine Go.run (pc' := 26) [.iload_n 2, .iload_n 1] (ls' := [some (.ref a0), some (.int x1), some (.int x2), some (.int x3)]) (st' := [.int x1, .int x2]) (by decide +kernel) rfl rfl ?_
      refine Go.if_ne (off := 12) (tgt := 38) (by decide +kernel) (by decide) (fun c3 => ?_) (fun c3 => ?_)
      · replace e := ite_f c3 e
        refine Go.run (pc' := 40) [.iload_n 1, .iconst 1] (ls' := [some (.ref a0), some (.int x1), some (.int x2), some (.int x3)]) (st' := [.int (1 : Int32), .int x1, .int x2]) (by decide +kernel) rfl rfl ?_
        refine Go.ic_ne (off := 15) (tgt := 55) (by decide +kernel) (by decide) (fun c4 => ?_) (fun c4 => ?_)
        · replace e := ite_f c4 e
          refine Go.run (pc' := 56) [.aload_n 0] (ls' := [some (.ref a0), some (.int x1), some (.int x2), some (.int x3)]) (st' := [.ref a0, .int x2]) (by decide +kernel) rfl rfl ?_
          refine Go.getR fo_M_7 k0 (by decide +kernel) ?_
          refine Go.run (pc' := 61) [.iload_n 3, .iconst 1] (ls' := [some (.ref a0), some (.int x1), some (.int x2), some (.int x3)]) (st' := [.int (1 : Int32), .int x3, .ref (fld a0 1), .int x2]) (by decide +kernel) rfl rfl ?_
          obtain ⟨v5, e6, e⟩ := bd_inv e
          refine Go.callS (M2 := m_M_neighbours) (as := [.ref (fld a0 1), .int x3, .int (1 : Int32)]) (rest := [.int x2]) (v := some (.int v5)) (h1 := h) (x_M_neighbours hf hI (kf_8_j 1 k0 (by decide) (by decide)) (al_8_j 1 k0 (by decide) (by decide) rfl) e6) ws_M_102 (by decide +kernel) rfl rfl ⟨⟨Nat.le_of_ble_eq_true rfl, Nat.le_of_ble_eq_true rfl⟩, ⟨Nat.le_of_ble_eq_true rfl, Nat.le_of_ble_eq_true rfl⟩⟩ (Nat.le_of_ble_eq_true rfl) ?_
          show Go l D ad aC (rmk m_M_sumDealers) _ m_M_sumDealers 64 [some (.ref a0), some (.int x1), some (.int x2), some (.int x3)] [.int v5, .int x2] h 0 0
          refine Go.wk' (wks (wks (wkn (wks wk0)))) ?_
          exact x_M_sumDealers_64 hf hI (fun kk0 e => ih kk0 e) k0 e
        · replace e := ite_t c4 e
          refine Go.run (pc' := 45) [.aload_n 0, .aload_n 0] (ls' := [some (.ref a0), some (.int x1), some (.int x2), some (.int x3)]) (st' := [.ref a0, .ref a0, .int x2]) (by decide +kernel) rfl rfl ?_
          refine Go.getR fo_M_7 k0 (by decide +kernel) ?_
          refine Go.run (pc' := 49) [.iload_n 3] (ls' := [some (.ref a0), some (.int x1), some (.int x2), some (.int x3)]) (st' := [.int x3, .ref (fld a0 1), .ref a0, .int x2]) (by decide +kernel) rfl rfl ?_
          obtain ⟨v7, e8, e⟩ := bd_inv e
          refine Go.callV (M2 := m_M_lacks) (a := a0) (as := [.ref (fld a0 1), .int x3]) (rest := [.int x2]) (v := some (.int v7)) (h1 := h) (x_M_lacks hf hI k0 (kf_8_j 1 k0 (by decide) (by decide)) (al_8_j 1 k0 (by decide) (by decide) rfl) e8) wv_M_106 k0 kc_8 (by decide +kernel) rfl rfl ⟨⟨Nat.le_of_ble_eq_true rfl, Nat.le_of_ble_eq_true rfl⟩, ⟨Nat.le_of_ble_eq_true rfl, Nat.le_of_ble_eq_true rfl⟩⟩ (Nat.le_of_ble_eq_true rfl) ?_
          show Go l D ad aC (rmk m_M_sumDealers) _ m_M_sumDealers 52 [some (.ref a0), some (.int x1), some (.int x2), some (.int x3)] [.int v7, .int x2] h 0 0
          refine Go.goto (off := 12) (tgt := 64) (by decide +kernel) (by decide) ?_
          refine Go.wk' (wks (wks (wkn (wks wk0)))) ?_
          exact x_M_sumDealers_64 hf hI (fun kk0 e => ih kk0 e) k0 e
      · replace e := ite_t c3 e
        refine Go.run (pc' := 30) [.aload_n 0] (ls' := [some (.ref a0), some (.int x1), some (.int x2), some (.int x3)]) (st' := [.ref a0, .int x2]) (by decide +kernel) rfl rfl ?_
        refine Go.getR fo_M_32 k0 (by decide +kernel) ?_
        refine Go.run (pc' := 34) [.iload_n 3] (ls' := [some (.ref a0), some (.int x1), some (.int x2), some (.int x3)]) (st' := [.int x3, .ref (fld a0 9), .int x2]) (by decide +kernel) rfl rfl ?_
        obtain ⟨g9, e⟩ := gd_inv e
        refine Go.iald (kf_8_j 9 k0 (by decide) (by decide)) (al_8_j 9 k0 (by decide) (by decide) rfl) g9 (by decide +kernel) ?_
        refine Go.goto (off := 29) (tgt := 64) (by decide +kernel) (by decide) ?_
        refine Go.wk' (wks (wks (wkn (wks wk0)))) ?_
        exact x_M_sumDealers_64 hf hI (fun kk0 e => ih kk0 e) k0 e
def f_M_sumDealers (h : HP) (a0 : Nat) (x1 : Int32) : Option (Int32 × HP) :=
  (f_M_share h a0 (fld a0 1)).bind fun v1 =>
  f_M_sumDealers_12 4096 a0 x1 (0 : Int32) (0 : Int32) v1
set_option maxHeartbeats 1000000 in
theorem x_M_sumDealers {l : Launch} {D : va_G} {ad : Nat → Nat} {aC : Nat → ClassId} (hf : l.flags = flags0) (hI : Inj ad) {h : HP} {a0 : Nat} {x1 : Int32} {r : Int32 × HP} (k0 : knd a0 = 8) (e : f_M_sumDealers h a0 x1 = some r) : CT l D ad aC m_M_sumDealers [.ref a0, .int x1] h (.inl (some (.int r.1))) r.2 := by
  refine CT.ofGo (by decide +kernel) rfl (Nat.le_of_ble_eq_true rfl) ?_
  unfold f_M_sumDealers at e
  show Go l D ad aC (rmk m_M_sumDealers) _ m_M_sumDealers 0 [some (.ref a0), some (.int x1), none, none] [] h 0 0
  refine Go.run (pc' := 4) [.iconst 0, .istore_n 2, .aload_n 0, .aload_n 0] (ls' := [some (.ref a0), some (.int x1), some (.int (0 : Int32)), none]) (st' := [.ref a0, .ref a0]) (by decide +kernel) rfl rfl ?_
  refine Go.getR fo_M_7 k0 (by decide +kernel) ?_
  obtain ⟨v1, e2, e⟩ := bd_inv e
  refine Go.callV (M2 := m_M_share) (a := a0) (as := [.ref (fld a0 1)]) (rest := []) (v := none) (h1 := v1) (x_M_share hf hI k0 (kf_8_j 1 k0 (by decide) (by decide)) (al_8_j 1 k0 (by decide) (by decide) rfl) e2) wv_M_109 k0 kc_8 (by decide +kernel) rfl rfl ⟨⟨Nat.le_of_ble_eq_true rfl, Nat.le_of_ble_eq_true rfl⟩, ⟨Nat.le_of_ble_eq_true rfl, Nat.le_of_ble_eq_true rfl⟩⟩ (Nat.le_of_ble_eq_true rfl) ?_
  show Go l D ad aC (rmk m_M_sumDealers) _ m_M_sumDealers 10 [some (.ref a0), some (.int x1), some (.int (0 : Int32)), none] [] v1 0 0
  refine Go.run (pc' := 12) [.iconst 0, .istore_n 3] (ls' := [some (.ref a0), some (.int x1), some (.int (0 : Int32)), some (.int (0 : Int32))]) (st' := []) (by decide +kernel) rfl rfl ?_
  exact x_M_sumDealers_12 hf hI 4096 k0 e
def f_M_about_18  (a0 : Nat) (x1 : Int32) (b0 : Nat) (s1 : Int32) (h : HP) : Option (Int32 × HP) :=
  (f_M_refused h b0 s1).bind fun v1 =>
  if v1.1 = 0 then
    if x1 = 0 then
      if ib (184 : Int32) 196 = true then
      some (v1.2 (fld a0 1) (184 : Int32).toNatClampNeg, v1.2)
      else none
    else
      if x1 = 1 then
        if ib (185 : Int32) 196 = true then
        some (v1.2 (fld a0 1) (185 : Int32).toNatClampNeg, v1.2)
        else none
      else
        if x1 = 2 then
          (f_M_standing v1.2 (fld a0 1)).bind fun v9 =>
          some (v9, v1.2)
        else
          if x1 = 3 then
            (f_M_metres v1.2 (fld a0 1)).bind fun v12 =>
            some (v12, v1.2)
          else
            if x1 = 4 then
              (f_M_sumWalls v1.2 a0 (0 : Int32)).bind fun v15 =>
              some (v15, v1.2)
            else
              if x1 = 5 then
                (f_M_sumWalls v1.2 a0 (1 : Int32)).bind fun v18 =>
                some (v18, v1.2)
              else
                if x1 = 6 then
                  (f_M_sumDealers v1.2 a0 (0 : Int32)).bind fun v21 =>
                  some (v21.1, v21.2)
                else
                  if x1 = 7 then
                    (f_M_sumDealers v1.2 a0 (1 : Int32)).bind fun v24 =>
                    some (v24.1, v24.2)
                  else
                    if x1 = 8 then
                      (f_M_rents v1.2 a0 (fld a0 1)).bind fun v27 =>
                      some (v27.1, v27.2)
                    else
                      if x1 = 9 then
                        if ib (189 : Int32) 196 = true then
                        some (v1.2 (fld a0 1) (189 : Int32).toNatClampNeg, v1.2)
                        else none
                      else
                        if x1 = 10 then
                          if ib (186 : Int32) 196 = true then
                          some (v1.2 (fld a0 1) (186 : Int32).toNatClampNeg, v1.2)
                          else none
                        else
                          if x1 = 11 then
                            if ib (187 : Int32) 196 = true then
                            some (v1.2 (fld a0 1) (187 : Int32).toNatClampNeg, v1.2)
                            else none
                          else
                            if x1 = 12 then
                              if ib (188 : Int32) 196 = true then
                              some (v1.2 (fld a0 1) (188 : Int32).toNatClampNeg, v1.2)
                              else none
                            else
                              (f_M_sumDealers v1.2 a0 (2 : Int32)).bind fun v37 =>
                              some (v37.1 / (2 : Int32), v37.2)
  else
    some ((0 : Int32), v1.2)
set_option maxHeartbeats 1000000 in
theorem x_M_about_18 {l : Launch} {D : va_G} {ad : Nat → Nat} {aC : Nat → ClassId} (hf : l.flags = flags0) (hI : Inj ad) {a0 : Nat} {x1 : Int32} {b0 : Nat} {s1 : Int32} {h : HP} {r : Int32 × HP} (k0 : knd a0 = 8) (kb0 : knd b0 = 8) (e : f_M_about_18 a0 x1 b0 s1 h = some r) : Go l D ad aC (rmk m_M_about) (QM D ad aC m_M_about (.inl (some (.int r.1))) r.2) m_M_about 18 [some (.ref a0), some (.int x1)] [.int s1, .ref b0] h 0 0 := by
  unfold f_M_about_18 at e
  obtain ⟨v1, e2, e⟩ := bd_inv e
  refine Go.callV (M2 := m_M_refused) (a := b0) (as := [.int s1]) (rest := []) (v := some (.int v1.1)) (h1 := v1.2) (x_M_refused hf hI kb0 e2) wv_M_142 kb0 kc_8 (by decide +kernel) rfl rfl ⟨⟨Nat.le_of_ble_eq_true rfl, Nat.le_of_ble_eq_true rfl⟩, ⟨Nat.le_of_ble_eq_true rfl, Nat.le_of_ble_eq_true rfl⟩⟩ (Nat.le_of_ble_eq_true rfl) ?_
  show Go l D ad aC (rmk m_M_about) _ m_M_about 21 [some (.ref a0), some (.int x1)] [.int v1.1] v1.2 0 0
  refine Go.if_eq (off := 5) (tgt := 26) (by decide +kernel) (by decide) (fun c3 => ?_) (fun c3 => ?_)
  · replace e := ite_t c3 e
    refine Go.run (pc' := 27) [.iload_n 1] (ls' := [some (.ref a0), some (.int x1)]) (st' := [.int x1]) (by decide +kernel) rfl rfl ?_
    rcases Decidable.em (x1 = 0) with c4 | c4
    · replace e := ite_t c4 e
      refine Go.tsIn (dflt := 168) (lo := 0) (hi := 12) (offs := #[65, 74, 83, 91, 99, 105, 111, 117, 123, 132, 141, 150, 159]) (len := 65) (off := 65) (tgt := 92) 0 (by decide +kernel) (by rw [c4]; decide) (by decide) (by decide) (by decide) (by decide) ?_
      refine Go.run (pc' := 93) [.aload_n 0] (ls' := [some (.ref a0), some (.int x1)]) (st' := [.ref a0]) (by decide +kernel) rfl rfl ?_
      refine Go.getR fo_M_7 k0 (by decide +kernel) ?_
      refine Go.run (pc' := 99) [.sipush (184)] (ls' := [some (.ref a0), some (.int x1)]) (st' := [.int (184 : Int32), .ref (fld a0 1)]) (by decide +kernel) rfl rfl ?_
      obtain ⟨g5, e⟩ := gd_inv e
      refine Go.iald (kf_8_j 1 k0 (by decide) (by decide)) (al_8_j 1 k0 (by decide) (by decide) rfl) g5 (by decide +kernel) ?_
      obtain rfl := Option.some.inj e
      exact Go.iret rfl (by decide) (by decide) (by decide +kernel)
    replace e := ite_f c4 e
    rcases Decidable.em (x1 = 1) with c6 | c6
    · replace e := ite_t c6 e
      refine Go.tsIn (dflt := 168) (lo := 0) (hi := 12) (offs := #[65, 74, 83, 91, 99, 105, 111, 117, 123, 132, 141, 150, 159]) (len := 65) (off := 74) (tgt := 101) 1 (by decide +kernel) (by rw [c6]; decide) (by decide) (by decide) (by decide) (by decide) ?_
      refine Go.run (pc' := 102) [.aload_n 0] (ls' := [some (.ref a0), some (.int x1)]) (st' := [.ref a0]) (by decide +kernel) rfl rfl ?_
      refine Go.getR fo_M_7 k0 (by decide +kernel) ?_
      refine Go.run (pc' := 108) [.sipush (185)] (ls' := [some (.ref a0), some (.int x1)]) (st' := [.int (185 : Int32), .ref (fld a0 1)]) (by decide +kernel) rfl rfl ?_
      obtain ⟨g7, e⟩ := gd_inv e
      refine Go.iald (kf_8_j 1 k0 (by decide) (by decide)) (al_8_j 1 k0 (by decide) (by decide) rfl) g7 (by decide +kernel) ?_
      obtain rfl := Option.some.inj e
      exact Go.iret rfl (by decide) (by decide) (by decide +kernel)
    replace e := ite_f c6 e
    rcases Decidable.em (x1 = 2) with c8 | c8
    · replace e := ite_t c8 e
      refine Go.tsIn (dflt := 168) (lo := 0) (hi := 12) (offs := #[65, 74, 83, 91, 99, 105, 111, 117, 123, 132, 141, 150, 159]) (len := 65) (off := 83) (tgt := 110) 2 (by decide +kernel) (by rw [c8]; decide) (by decide) (by decide) (by decide) (by decide) ?_
      refine Go.run (pc' := 111) [.aload_n 0] (ls' := [some (.ref a0), some (.int x1)]) (st' := [.ref a0]) (by decide +kernel) rfl rfl ?_
      refine Go.getR fo_M_7 k0 (by decide +kernel) ?_
      obtain ⟨v9, e10, e⟩ := bd_inv e
      refine Go.callS (M2 := m_M_standing) (as := [.ref (fld a0 1)]) (rest := []) (v := some (.int v9)) (h1 := v1.2) (x_M_standing hf hI (kf_8_j 1 k0 (by decide) (by decide)) (al_8_j 1 k0 (by decide) (by decide) rfl) e10) ws_M_239 (by decide +kernel) rfl rfl ⟨⟨Nat.le_of_ble_eq_true rfl, Nat.le_of_ble_eq_true rfl⟩, ⟨Nat.le_of_ble_eq_true rfl, Nat.le_of_ble_eq_true rfl⟩⟩ (Nat.le_of_ble_eq_true rfl) ?_
      show Go l D ad aC (rmk m_M_about) _ m_M_about 117 [some (.ref a0), some (.int x1)] [.int v9] v1.2 0 0
      obtain rfl := Option.some.inj e
      exact Go.iret rfl (by decide) (by decide) (by decide +kernel)
    replace e := ite_f c8 e
    rcases Decidable.em (x1 = 3) with c11 | c11
    · replace e := ite_t c11 e
      refine Go.tsIn (dflt := 168) (lo := 0) (hi := 12) (offs := #[65, 74, 83, 91, 99, 105, 111, 117, 123, 132, 141, 150, 159]) (len := 65) (off := 91) (tgt := 118) 3 (by decide +kernel) (by rw [c11]; decide) (by decide) (by decide) (by decide) (by decide) ?_
      refine Go.run (pc' := 119) [.aload_n 0] (ls' := [some (.ref a0), some (.int x1)]) (st' := [.ref a0]) (by decide +kernel) rfl rfl ?_
      refine Go.getR fo_M_7 k0 (by decide +kernel) ?_
      obtain ⟨v12, e13, e⟩ := bd_inv e
      refine Go.callS (M2 := m_M_metres) (as := [.ref (fld a0 1)]) (rest := []) (v := some (.int v12)) (h1 := v1.2) (x_M_metres hf hI (kf_8_j 1 k0 (by decide) (by decide)) (al_8_j 1 k0 (by decide) (by decide) rfl) e13) ws_M_243 (by decide +kernel) rfl rfl ⟨⟨Nat.le_of_ble_eq_true rfl, Nat.le_of_ble_eq_true rfl⟩, ⟨Nat.le_of_ble_eq_true rfl, Nat.le_of_ble_eq_true rfl⟩⟩ (Nat.le_of_ble_eq_true rfl) ?_
      show Go l D ad aC (rmk m_M_about) _ m_M_about 125 [some (.ref a0), some (.int x1)] [.int v12] v1.2 0 0
      obtain rfl := Option.some.inj e
      exact Go.iret rfl (by decide) (by decide) (by decide +kernel)
    replace e := ite_f c11 e
    rcases Decidable.em (x1 = 4) with c14 | c14
    · replace e := ite_t c14 e
      refine Go.tsIn (dflt := 168) (lo := 0) (hi := 12) (offs := #[65, 74, 83, 91, 99, 105, 111, 117, 123, 132, 141, 150, 159]) (len := 65) (off := 99) (tgt := 126) 4 (by decide +kernel) (by rw [c14]; decide) (by decide) (by decide) (by decide) (by decide) ?_
      refine Go.run (pc' := 128) [.aload_n 0, .iconst 0] (ls' := [some (.ref a0), some (.int x1)]) (st' := [.int (0 : Int32), .ref a0]) (by decide +kernel) rfl rfl ?_
      obtain ⟨v15, e16, e⟩ := bd_inv e
      refine Go.callV (M2 := m_M_sumWalls) (a := a0) (as := [.int (0 : Int32)]) (rest := []) (v := some (.int v15)) (h1 := v1.2) (x_M_sumWalls hf hI k0 e16) wv_M_246 k0 kc_8 (by decide +kernel) rfl rfl ⟨⟨Nat.le_of_ble_eq_true rfl, Nat.le_of_ble_eq_true rfl⟩, ⟨Nat.le_of_ble_eq_true rfl, Nat.le_of_ble_eq_true rfl⟩⟩ (Nat.le_of_ble_eq_true rfl) ?_
      show Go l D ad aC (rmk m_M_about) _ m_M_about 131 [some (.ref a0), some (.int x1)] [.int v15] v1.2 0 0
      obtain rfl := Option.some.inj e
      exact Go.iret rfl (by decide) (by decide) (by decide +kernel)
    replace e := ite_f c14 e
    rcases Decidable.em (x1 = 5) with c17 | c17
    · replace e := ite_t c17 e
      refine Go.tsIn (dflt := 168) (lo := 0) (hi := 12) (offs := #[65, 74, 83, 91, 99, 105, 111, 117, 123, 132, 141, 150, 159]) (len := 65) (off := 105) (tgt := 132) 5 (by decide +kernel) (by rw [c17]; decide) (by decide) (by decide) (by decide) (by decide) ?_
      refine Go.run (pc' := 134) [.aload_n 0, .iconst 1] (ls' := [some (.ref a0), some (.int x1)]) (st' := [.int (1 : Int32), .ref a0]) (by decide +kernel) rfl rfl ?_
      obtain ⟨v18, e19, e⟩ := bd_inv e
      refine Go.callV (M2 := m_M_sumWalls) (a := a0) (as := [.int (1 : Int32)]) (rest := []) (v := some (.int v18)) (h1 := v1.2) (x_M_sumWalls hf hI k0 e19) wv_M_246 k0 kc_8 (by decide +kernel) rfl rfl ⟨⟨Nat.le_of_ble_eq_true rfl, Nat.le_of_ble_eq_true rfl⟩, ⟨Nat.le_of_ble_eq_true rfl, Nat.le_of_ble_eq_true rfl⟩⟩ (Nat.le_of_ble_eq_true rfl) ?_
      show Go l D ad aC (rmk m_M_about) _ m_M_about 137 [some (.ref a0), some (.int x1)] [.int v18] v1.2 0 0
      obtain rfl := Option.some.inj e
      exact Go.iret rfl (by decide) (by decide) (by decide +kernel)
    replace e := ite_f c17 e
    rcases Decidable.em (x1 = 6) with c20 | c20
    · replace e := ite_t c20 e
      refine Go.tsIn (dflt := 168) (lo := 0) (hi := 12) (offs := #[65, 74, 83, 91, 99, 105, 111, 117, 123, 132, 141, 150, 159]) (len := 65) (off := 111) (tgt := 138) 6 (by decide +kernel) (by rw [c20]; decide) (by decide) (by decide) (by decide) (by decide) ?_
      refine Go.run (pc' := 140) [.aload_n 0, .iconst 0] (ls' := [some (.ref a0), some (.int x1)]) (st' := [.int (0 : Int32), .ref a0]) (by decide +kernel) rfl rfl ?_
      obtain ⟨v21, e22, e⟩ := bd_inv e
      refine Go.callV (M2 := m_M_sumDealers) (a := a0) (as := [.int (0 : Int32)]) (rest := []) (v := some (.int v21.1)) (h1 := v21.2) (x_M_sumDealers hf hI k0 e22) wv_M_249 k0 kc_8 (by decide +kernel) rfl rfl ⟨⟨Nat.le_of_ble_eq_true rfl, Nat.le_of_ble_eq_true rfl⟩, ⟨Nat.le_of_ble_eq_true rfl, Nat.le_of_ble_eq_true rfl⟩⟩ (Nat.le_of_ble_eq_true rfl) ?_
      show Go l D ad aC (rmk m_M_about) _ m_M_about 143 [some (.ref a0), some (.int x1)] [.int v21.1] v21.2 0 0
      obtain rfl := Option.some.inj e
      exact Go.iret rfl (by decide) (by decide) (by decide +kernel)
    replace e := ite_f c20 e
    rcases Decidable.em (x1 = 7) with c23 | c23
    · replace e := ite_t c23 e
      refine Go.tsIn (dflt := 168) (lo := 0) (hi := 12) (offs := #[65, 74, 83, 91, 99, 105, 111, 117, 123, 132, 141, 150, 159]) (len := 65) (off := 117) (tgt := 144) 7 (by decide +kernel) (by rw [c23]; decide) (by decide) (by decide) (by decide) (by decide) ?_
      refine Go.run (pc' := 146) [.aload_n 0, .iconst 1] (ls' := [some (.ref a0), some (.int x1)]) (st' := [.int (1 : Int32), .ref a0]) (by decide +kernel) rfl rfl ?_
      obtain ⟨v24, e25, e⟩ := bd_inv e
      refine Go.callV (M2 := m_M_sumDealers) (a := a0) (as := [.int (1 : Int32)]) (rest := []) (v := some (.int v24.1)) (h1 := v24.2) (x_M_sumDealers hf hI k0 e25) wv_M_249 k0 kc_8 (by decide +kernel) rfl rfl ⟨⟨Nat.le_of_ble_eq_true rfl, Nat.le_of_ble_eq_true rfl⟩, ⟨Nat.le_of_ble_eq_true rfl, Nat.le_of_ble_eq_true rfl⟩⟩ (Nat.le_of_ble_eq_true rfl) ?_
      show Go l D ad aC (rmk m_M_about) _ m_M_about 149 [some (.ref a0), some (.int x1)] [.int v24.1] v24.2 0 0
      obtain rfl := Option.some.inj e
      exact Go.iret rfl (by decide) (by decide) (by decide +kernel)
    replace e := ite_f c23 e
    rcases Decidable.em (x1 = 8) with c26 | c26
    · replace e := ite_t c26 e
      refine Go.tsIn (dflt := 168) (lo := 0) (hi := 12) (offs := #[65, 74, 83, 91, 99, 105, 111, 117, 123, 132, 141, 150, 159]) (len := 65) (off := 123) (tgt := 150) 8 (by decide +kernel) (by rw [c26]; decide) (by decide) (by decide) (by decide) (by decide) ?_
      refine Go.run (pc' := 152) [.aload_n 0, .aload_n 0] (ls' := [some (.ref a0), some (.int x1)]) (st' := [.ref a0, .ref a0]) (by decide +kernel) rfl rfl ?_
      refine Go.getR fo_M_7 k0 (by decide +kernel) ?_
      obtain ⟨v27, e28, e⟩ := bd_inv e
      refine Go.callV (M2 := m_M_rents) (a := a0) (as := [.ref (fld a0 1)]) (rest := []) (v := some (.int v27.1)) (h1 := v27.2) (x_M_rents hf hI k0 (kf_8_j 1 k0 (by decide) (by decide)) (al_8_j 1 k0 (by decide) (by decide) rfl) e28) wv_M_252 k0 kc_8 (by decide +kernel) rfl rfl ⟨⟨Nat.le_of_ble_eq_true rfl, Nat.le_of_ble_eq_true rfl⟩, ⟨Nat.le_of_ble_eq_true rfl, Nat.le_of_ble_eq_true rfl⟩⟩ (Nat.le_of_ble_eq_true rfl) ?_
      show Go l D ad aC (rmk m_M_about) _ m_M_about 158 [some (.ref a0), some (.int x1)] [.int v27.1] v27.2 0 0
      obtain rfl := Option.some.inj e
      exact Go.iret rfl (by decide) (by decide) (by decide +kernel)
    replace e := ite_f c26 e
    rcases Decidable.em (x1 = 9) with c29 | c29
    · replace e := ite_t c29 e
      refine Go.tsIn (dflt := 168) (lo := 0) (hi := 12) (offs := #[65, 74, 83, 91, 99, 105, 111, 117, 123, 132, 141, 150, 159]) (len := 65) (off := 132) (tgt := 159) 9 (by decide +kernel) (by rw [c29]; decide) (by decide) (by decide) (by decide) (by decide) ?_
      refine Go.run (pc' := 160) [.aload_n 0] (ls' := [some (.ref a0), some (.int x1)]) (st' := [.ref a0]) (by decide +kernel) rfl rfl ?_
      refine Go.getR fo_M_7 k0 (by decide +kernel) ?_
      refine Go.run (pc' := 166) [.sipush (189)] (ls' := [some (.ref a0), some (.int x1)]) (st' := [.int (189 : Int32), .ref (fld a0 1)]) (by decide +kernel) rfl rfl ?_
      obtain ⟨g30, e⟩ := gd_inv e
      refine Go.iald (kf_8_j 1 k0 (by decide) (by decide)) (al_8_j 1 k0 (by decide) (by decide) rfl) g30 (by decide +kernel) ?_
      obtain rfl := Option.some.inj e
      exact Go.iret rfl (by decide) (by decide) (by decide +kernel)
    replace e := ite_f c29 e
    rcases Decidable.em (x1 = 10) with c31 | c31
    · replace e := ite_t c31 e
      refine Go.tsIn (dflt := 168) (lo := 0) (hi := 12) (offs := #[65, 74, 83, 91, 99, 105, 111, 117, 123, 132, 141, 150, 159]) (len := 65) (off := 141) (tgt := 168) 10 (by decide +kernel) (by rw [c31]; decide) (by decide) (by decide) (by decide) (by decide) ?_
      refine Go.run (pc' := 169) [.aload_n 0] (ls' := [some (.ref a0), some (.int x1)]) (st' := [.ref a0]) (by decide +kernel) rfl rfl ?_
      refine Go.getR fo_M_7 k0 (by decide +kernel) ?_
      refine Go.run (pc' := 175) [.sipush (186)] (ls' := [some (.ref a0), some (.int x1)]) (st' := [.int (186 : Int32), .ref (fld a0 1)]) (by decide +kernel) rfl rfl ?_
      obtain ⟨g32, e⟩ := gd_inv e
      refine Go.iald (kf_8_j 1 k0 (by decide) (by decide)) (al_8_j 1 k0 (by decide) (by decide) rfl) g32 (by decide +kernel) ?_
      obtain rfl := Option.some.inj e
      exact Go.iret rfl (by decide) (by decide) (by decide +kernel)
    replace e := ite_f c31 e
    rcases Decidable.em (x1 = 11) with c33 | c33
    · replace e := ite_t c33 e
      refine Go.tsIn (dflt := 168) (lo := 0) (hi := 12) (offs := #[65, 74, 83, 91, 99, 105, 111, 117, 123, 132, 141, 150, 159]) (len := 65) (off := 150) (tgt := 177) 11 (by decide +kernel) (by rw [c33]; decide) (by decide) (by decide) (by decide) (by decide) ?_
      refine Go.run (pc' := 178) [.aload_n 0] (ls' := [some (.ref a0), some (.int x1)]) (st' := [.ref a0]) (by decide +kernel) rfl rfl ?_
      refine Go.getR fo_M_7 k0 (by decide +kernel) ?_
      refine Go.run (pc' := 184) [.sipush (187)] (ls' := [some (.ref a0), some (.int x1)]) (st' := [.int (187 : Int32), .ref (fld a0 1)]) (by decide +kernel) rfl rfl ?_
      obtain ⟨g34, e⟩ := gd_inv e
      refine Go.iald (kf_8_j 1 k0 (by decide) (by decide)) (al_8_j 1 k0 (by decide) (by decide) rfl) g34 (by decide +kernel) ?_
      obtain rfl := Option.some.inj e
      exact Go.iret rfl (by decide) (by decide) (by decide +kernel)
    replace e := ite_f c33 e
    rcases Decidable.em (x1 = 12) with c35 | c35
    · replace e := ite_t c35 e
      refine Go.tsIn (dflt := 168) (lo := 0) (hi := 12) (offs := #[65, 74, 83, 91, 99, 105, 111, 117, 123, 132, 141, 150, 159]) (len := 65) (off := 159) (tgt := 186) 12 (by decide +kernel) (by rw [c35]; decide) (by decide) (by decide) (by decide) (by decide) ?_
      refine Go.run (pc' := 187) [.aload_n 0] (ls' := [some (.ref a0), some (.int x1)]) (st' := [.ref a0]) (by decide +kernel) rfl rfl ?_
      refine Go.getR fo_M_7 k0 (by decide +kernel) ?_
      refine Go.run (pc' := 193) [.sipush (188)] (ls' := [some (.ref a0), some (.int x1)]) (st' := [.int (188 : Int32), .ref (fld a0 1)]) (by decide +kernel) rfl rfl ?_
      obtain ⟨g36, e⟩ := gd_inv e
      refine Go.iald (kf_8_j 1 k0 (by decide) (by decide)) (al_8_j 1 k0 (by decide) (by decide) rfl) g36 (by decide +kernel) ?_
      obtain rfl := Option.some.inj e
      exact Go.iret rfl (by decide) (by decide) (by decide +kernel)
    replace e := ite_f c35 e
    refine Go.tsOut (dflt := 168) (lo := 0) (hi := 12) (offs := #[65, 74, 83, 91, 99, 105, 111, 117, 123, 132, 141, 150, 159]) (len := 65) (tgt := 195) (by decide +kernel) (by have zc4 := lv_neT c4 (a := 0) rfl; have zc6 := lv_neT c6 (a := 1) rfl; have zc8 := lv_neT c8 (a := 2) rfl; have zc11 := lv_neT c11 (a := 3) rfl; have zc14 := lv_neT c14 (a := 4) rfl; have zc17 := lv_neT c17 (a := 5) rfl; have zc20 := lv_neT c20 (a := 6) rfl; have zc23 := lv_neT c23 (a := 7) rfl; have zc26 := lv_neT c26 (a := 8) rfl; have zc29 := lv_neT c29 (a := 9) rfl; have zc31 := lv_neT c31 (a := 10) rfl; have zc33 := lv_neT c33 (a := 11) rfl; have zc35 := lv_neT c35 (a := 12) rfl; omega) (by decide) ?_
    refine Go.run (pc' := 197) [.aload_n 0, .iconst 2] (ls' := [some (.ref a0), some (.int x1)]) (st' := [.int (2 : Int32), .ref a0]) (by decide +kernel) rfl rfl ?_
    obtain ⟨v37, e38, e⟩ := bd_inv e
    refine Go.callV (M2 := m_M_sumDealers) (a := a0) (as := [.int (2 : Int32)]) (rest := []) (v := some (.int v37.1)) (h1 := v37.2) (x_M_sumDealers hf hI k0 e38) wv_M_249 k0 kc_8 (by decide +kernel) rfl rfl ⟨⟨Nat.le_of_ble_eq_true rfl, Nat.le_of_ble_eq_true rfl⟩, ⟨Nat.le_of_ble_eq_true rfl, Nat.le_of_ble_eq_true rfl⟩⟩ (Nat.le_of_ble_eq_true rfl) ?_
    show Go l D ad aC (rmk m_M_about) _ m_M_about 200 [some (.ref a0), some (.int x1)] [.int v37.1] v37.2 0 0
    refine Go.run (pc' := 202) [.iconst 2, .idiv] (ls' := [some (.ref a0), some (.int x1)]) (st' := [.int (v37.1 / (2 : Int32))]) (by decide +kernel) rfl rfl ?_
    obtain rfl := Option.some.inj e
    exact Go.iret rfl (by decide) (by decide) (by decide +kernel)
  · replace e := ite_f c3 e
    refine Go.run (pc' := 25) [.iconst 0] (ls' := [some (.ref a0), some (.int x1)]) (st' := [.int (0 : Int32)]) (by decide +kernel) rfl rfl ?_
    obtain rfl := Option.some.inj e
    exact Go.iret rfl (by decide) (by decide) (by decide +kernel)
def f_M_about (h : HP) (a0 : Nat) (x1 : Int32) : Option (Int32 × HP) :=
  (f_M_in h x1.toInt64 (0 : Int64) (13 : Int64)).bind fun v1 =>
  if v1 = 0 then
    f_M_about_18 a0 x1 a0 (1 : Int32) h
  else
    f_M_about_18 a0 x1 a0 (0 : Int32) h
set_option maxHeartbeats 1000000 in
theorem x_M_about {l : Launch} {D : va_G} {ad : Nat → Nat} {aC : Nat → ClassId} (hf : l.flags = flags0) (hI : Inj ad) {h : HP} {a0 : Nat} {x1 : Int32} {r : Int32 × HP} (k0 : knd a0 = 8) (e : f_M_about h a0 x1 = some r) : CT l D ad aC m_M_about [.ref a0, .int x1] h (.inl (some (.int r.1))) r.2 := by
  refine CT.ofGo (by decide +kernel) rfl (Nat.le_of_ble_eq_true rfl) ?_
  unfold f_M_about at e
  show Go l D ad aC (rmk m_M_about) _ m_M_about 0 [some (.ref a0), some (.int x1)] [] h 0 0
  refine Go.run (pc' := 4) [.aload_n 0, .iload_n 1, .i2l, .lconst 0] (ls' := [some (.ref a0), some (.int x1)]) (st' := [.long (0 : Int64), .long x1.toInt64, .ref a0]) (by decide +kernel) rfl rfl ?_
  refine Go.ldc2 lo_M_237 (by decide +kernel) ?_
  obtain ⟨v1, e2, e⟩ := bd_inv e
  refine Go.callS (M2 := m_M_in) (as := [.long x1.toInt64, .long (0 : Int64), .long (13 : Int64)]) (rest := [.ref a0]) (v := some (.int v1)) (h1 := h) (x_M_in hf hI  e2) ws_M_51 (by decide +kernel) rfl rfl ⟨⟨Nat.le_of_ble_eq_true rfl, Nat.le_of_ble_eq_true rfl⟩, ⟨Nat.le_of_ble_eq_true rfl, Nat.le_of_ble_eq_true rfl⟩⟩ (Nat.le_of_ble_eq_true rfl) ?_
  show Go l D ad aC (rmk m_M_about) _ m_M_about 10 [some (.ref a0), some (.int x1)] [.int v1, .ref a0] h 0 0
  refine Go.if_eq (off := 7) (tgt := 17) (by decide +kernel) (by decide) (fun c3 => ?_) (fun c3 => ?_)
  · replace e := ite_t c3 e
    refine Go.run (pc' := 18) [.iconst 1] (ls' := [some (.ref a0), some (.int x1)]) (st' := [.int (1 : Int32), .ref a0]) (by decide +kernel) rfl rfl ?_
    exact x_M_about_18 hf hI k0 k0 e
  · replace e := ite_f c3 e
    refine Go.run (pc' := 14) [.iconst 0] (ls' := [some (.ref a0), some (.int x1)]) (st' := [.int (0 : Int32), .ref a0]) (by decide +kernel) rfl rfl ?_
    refine Go.goto (off := 4) (tgt := 18) (by decide +kernel) (by decide) ?_
    exact x_M_about_18 hf hI k0 k0 e
def f_M_longestRow_75 (h : HP) (k11_ : Nat → Int32 → Int32 → Int32 → Int32 → Int32 → Int32 → Option (Int32)) (a0 : Nat) (x1 : Int32) (x2 : Int32) (x3 : Int32) (x5 : Int32) (x6 : Int32) (s0 : Int32) : Option (Int32) :=
  k11_ a0 x1 x2 x3 s0 x5 (x6 + (1 : Int32))
set_option maxHeartbeats 1000000 in
theorem x_M_longestRow_75 {l : Launch} {D : va_G} {ad : Nat → Nat} {aC : Nat → ClassId} (hf : l.flags = flags0) (hI : Inj ad) {h : HP} {k11_ : Nat → Int32 → Int32 → Int32 → Int32 → Int32 → Int32 → Option (Int32)} (K11_ : ∀ {a0 : Nat} {x1 : Int32} {x2 : Int32} {x3 : Int32} {x4 : Int32} {x5 : Int32} {x6 : Int32} {r : Int32}, knd a0 = 10 → alen a0 = 196 → k11_ a0 x1 x2 x3 x4 x5 x6 = some r → Go l D ad aC (rmk m_M_longestRow) (QM D ad aC m_M_longestRow (.inl (some (.int r))) h) m_M_longestRow 11 [some (.ref a0), some (.int x1), some (.int x2), some (.int x3), some (.int x4), some (.int x5), some (.int x6)] [] h 0 0) {a0 : Nat} {x1 : Int32} {x2 : Int32} {x3 : Int32} {x5 : Int32} {x6 : Int32} {s0 : Int32} {r : Int32} (k0 : knd a0 = 10) (q0 : alen a0 = 196) (e : f_M_longestRow_75 h k11_ a0 x1 x2 x3 x5 x6 s0 = some r) : Go l D ad aC (rmk m_M_longestRow) (QM D ad aC m_M_longestRow (.inl (some (.int r))) h) m_M_longestRow 75 [some (.ref a0), some (.int x1), some (.int x2), some (.int x3), none, some (.int x5), some (.int x6)] [.int s0] h 0 0 := by
  unfold f_M_longestRow_75 at e
  refine Go.run (pc' := 80) [.istore 4, .iinc 6 (1)] (ls' := [some (.ref a0), some (.int x1), some (.int x2), some (.int x3), some (.int s0), some (.int x5), some (.int (x6 + (1 : Int32)))]) (st' := []) (by decide +kernel) rfl rfl ?_
  refine Go.goto (off := -69) (tgt := 11) (by decide +kernel) (by decide) ?_
  exact K11_ k0 q0 e
def f_M_longestRow_60 (h : HP) (k11_ : Nat → Int32 → Int32 → Int32 → Int32 → Int32 → Int32 → Option (Int32)) (a0 : Nat) (x1 : Int32) (x2 : Int32) (x4 : Int32) (x5 : Int32) (x6 : Int32) (s0 : Int32) : Option (Int32) :=
  if x5 ≤ x4 then
    f_M_longestRow_75 h k11_ a0 x1 x2 s0 x5 x6 x4
  else
    f_M_longestRow_75 h k11_ a0 x1 x2 s0 x5 x6 x5
set_option maxHeartbeats 1000000 in
theorem x_M_longestRow_60 {l : Launch} {D : va_G} {ad : Nat → Nat} {aC : Nat → ClassId} (hf : l.flags = flags0) (hI : Inj ad) {h : HP} {k11_ : Nat → Int32 → Int32 → Int32 → Int32 → Int32 → Int32 → Option (Int32)} (K11_ : ∀ {a0 : Nat} {x1 : Int32} {x2 : Int32} {x3 : Int32} {x4 : Int32} {x5 : Int32} {x6 : Int32} {r : Int32}, knd a0 = 10 → alen a0 = 196 → k11_ a0 x1 x2 x3 x4 x5 x6 = some r → Go l D ad aC (rmk m_M_longestRow) (QM D ad aC m_M_longestRow (.inl (some (.int r))) h) m_M_longestRow 11 [some (.ref a0), some (.int x1), some (.int x2), some (.int x3), some (.int x4), some (.int x5), some (.int x6)] [] h 0 0) {a0 : Nat} {x1 : Int32} {x2 : Int32} {x4 : Int32} {x5 : Int32} {x6 : Int32} {s0 : Int32} {r : Int32} (k0 : knd a0 = 10) (q0 : alen a0 = 196) (e : f_M_longestRow_60 h k11_ a0 x1 x2 x4 x5 x6 s0 = some r) : Go l D ad aC (rmk m_M_longestRow) (QM D ad aC m_M_longestRow (.inl (some (.int r))) h) m_M_longestRow 60 [some (.ref a0), some (.int x1), some (.int x2), none, some (.int x4), some (.int x5), some (.int x6)] [.int s0] h 0 0 := by
  unfold f_M_longestRow_60 at e
  refine Go.run (pc' := 65) [.istore_n 3, .iload 5, .iload 4] (ls' := [some (.ref a0), some (.int x1), some (.int x2), some (.int s0), some (.int x4), some (.int x5), some (.int x6)]) (st' := [.int x4, .int x5]) (by decide +kernel) rfl rfl ?_
  refine Go.ic_le (off := 8) (tgt := 73) (by decide +kernel) (by decide) (fun c1 => ?_) (fun c1 => ?_)
  · replace e := ite_t c1 e
    refine Go.run (pc' := 75) [.iload 4] (ls' := [some (.ref a0), some (.int x1), some (.int x2), some (.int s0), some (.int x4), some (.int x5), some (.int x6)]) (st' := [.int x4]) (by decide +kernel) rfl rfl ?_
    refine Go.wk' (wks (wks (wks (wks (wkn (wks (wks wk0))))))) ?_
    exact x_M_longestRow_75 hf hI K11_ k0 q0 e
  · replace e := ite_f c1 e
    refine Go.run (pc' := 70) [.iload 5] (ls' := [some (.ref a0), some (.int x1), some (.int x2), some (.int s0), some (.int x4), some (.int x5), some (.int x6)]) (st' := [.int x5]) (by decide +kernel) rfl rfl ?_
    refine Go.goto (off := 5) (tgt := 75) (by decide +kernel) (by decide) ?_
    refine Go.wk' (wks (wks (wks (wks (wkn (wks (wks wk0))))))) ?_
    exact x_M_longestRow_75 hf hI K11_ k0 q0 e
def f_M_longestRow_40 (h : HP) (k11_ : Nat → Int32 → Int32 → Int32 → Int32 → Int32 → Int32 → Option (Int32)) (a0 : Nat) (x1 : Int32) (x2 : Int32) (x3 : Int32) (x4 : Int32) (x6 : Int32) (s0 : Int32) : Option (Int32) :=
  if s0 ≤ x4 then
    f_M_longestRow_60 h k11_ a0 x1 x2 x4 s0 x6 x3
  else
    f_M_longestRow_60 h k11_ a0 x1 x2 x4 s0 x6 ((x6 - s0) + (1 : Int32))
set_option maxHeartbeats 1000000 in
theorem x_M_longestRow_40 {l : Launch} {D : va_G} {ad : Nat → Nat} {aC : Nat → ClassId} (hf : l.flags = flags0) (hI : Inj ad) {h : HP} {k11_ : Nat → Int32 → Int32 → Int32 → Int32 → Int32 → Int32 → Option (Int32)} (K11_ : ∀ {a0 : Nat} {x1 : Int32} {x2 : Int32} {x3 : Int32} {x4 : Int32} {x5 : Int32} {x6 : Int32} {r : Int32}, knd a0 = 10 → alen a0 = 196 → k11_ a0 x1 x2 x3 x4 x5 x6 = some r → Go l D ad aC (rmk m_M_longestRow) (QM D ad aC m_M_longestRow (.inl (some (.int r))) h) m_M_longestRow 11 [some (.ref a0), some (.int x1), some (.int x2), some (.int x3), some (.int x4), some (.int x5), some (.int x6)] [] h 0 0) {a0 : Nat} {x1 : Int32} {x2 : Int32} {x3 : Int32} {x4 : Int32} {x6 : Int32} {s0 : Int32} {r : Int32} (k0 : knd a0 = 10) (q0 : alen a0 = 196) (e : f_M_longestRow_40 h k11_ a0 x1 x2 x3 x4 x6 s0 = some r) : Go l D ad aC (rmk m_M_longestRow) (QM D ad aC m_M_longestRow (.inl (some (.int r))) h) m_M_longestRow 40 [some (.ref a0), some (.int x1), some (.int x2), some (.int x3), some (.int x4), none, some (.int x6)] [.int s0] h 0 0 := by
  unfold f_M_longestRow_40 at e
  refine Go.run (pc' := 46) [.istore 5, .iload 5, .iload 4] (ls' := [some (.ref a0), some (.int x1), some (.int x2), some (.int x3), some (.int x4), some (.int s0), some (.int x6)]) (st' := [.int x4, .int s0]) (by decide +kernel) rfl rfl ?_
  refine Go.ic_le (off := 13) (tgt := 59) (by decide +kernel) (by decide) (fun c1 => ?_) (fun c1 => ?_)
  · replace e := ite_t c1 e
    refine Go.run (pc' := 60) [.iload_n 3] (ls' := [some (.ref a0), some (.int x1), some (.int x2), some (.int x3), some (.int x4), some (.int s0), some (.int x6)]) (st' := [.int x3]) (by decide +kernel) rfl rfl ?_
    refine Go.wk' (wks (wks (wks (wkn (wks (wks (wks wk0))))))) ?_
    exact x_M_longestRow_60 hf hI K11_ k0 q0 e
  · replace e := ite_f c1 e
    refine Go.run (pc' := 56) [.iload 6, .iload 5, .isub, .iconst 1, .iadd] (ls' := [some (.ref a0), some (.int x1), some (.int x2), some (.int x3), some (.int x4), some (.int s0), some (.int x6)]) (st' := [.int ((x6 - s0) + (1 : Int32))]) (by decide +kernel) rfl rfl ?_
    refine Go.goto (off := 4) (tgt := 60) (by decide +kernel) (by decide) ?_
    refine Go.wk' (wks (wks (wks (wkn (wks (wks (wks wk0))))))) ?_
    exact x_M_longestRow_60 hf hI K11_ k0 q0 e
def f_M_longestRow_11 (h : HP)  : Nat → Nat → Int32 → Int32 → Int32 → Int32 → Int32 → Int32 → Option (Int32)
  | 0, _, _, _, _, _, _, _ => none
  | n + 1, a0, x1, x2, x3, x4, x5, x6 =>
    (f_M_size h a0 x1).bind fun v1 =>
    if v1 ≤ x6 then
      if x2 = 0 then
        some x4
      else
        some x3
    else
      (f_M_standsAt h a0 x1 x6).bind fun v5 =>
      if v5 = (-1 : Int32) then
        f_M_longestRow_40 h (f_M_longestRow_11 h n) a0 x1 x2 x3 x4 x6 (x5 + (1 : Int32))
      else
        f_M_longestRow_40 h (f_M_longestRow_11 h n) a0 x1 x2 x3 x4 x6 (0 : Int32)
set_option maxHeartbeats 1000000 in
theorem x_M_longestRow_11 {l : Launch} {D : va_G} {ad : Nat → Nat} {aC : Nat → ClassId} (hf : l.flags = flags0) (hI : Inj ad) {h : HP} : ∀ (n : Nat) {a0 : Nat} {x1 : Int32} {x2 : Int32} {x3 : Int32} {x4 : Int32} {x5 : Int32} {x6 : Int32} {r : Int32}, knd a0 = 10 → alen a0 = 196 → f_M_longestRow_11 h n a0 x1 x2 x3 x4 x5 x6 = some r → Go l D ad aC (rmk m_M_longestRow) (QM D ad aC m_M_longestRow (.inl (some (.int r))) h) m_M_longestRow 11 [some (.ref a0), some (.int x1), some (.int x2), some (.int x3), some (.int x4), some (.int x5), some (.int x6)] [] h 0 0 := by
  intro n
  induction n with
  | zero => intro a0 x1 x2 x3 x4 x5 x6 r k0 q0 e; exact no_none e
  | succ n ih =>
    intro a0 x1 x2 x3 x4 x5 x6 r k0 q0 e
    rw [f_M_longestRow_11] at e
    refine Go.run (pc' := 15) [.iload 6, .aload_n 0, .iload_n 1] (ls' := [some (.ref a0), some (.int x1), some (.int x2), some (.int x3), some (.int x4), some (.int x5), some (.int x6)]) (st' := [.int x1, .ref a0, .int x6]) (by decide +kernel) rfl rfl ?_
    obtain ⟨v1, e2, e⟩ := bd_inv e
    refine Go.callS (M2 := m_M_size) (as := [.ref a0, .int x1]) (rest := [.int x6]) (v := some (.int v1)) (h1 := h) (x_M_size hf hI k0 q0 e2) ws_M_75 (by decide +kernel) rfl rfl ⟨⟨Nat.le_of_ble_eq_true rfl, Nat.le_of_ble_eq_true rfl⟩, ⟨Nat.le_of_ble_eq_true rfl, Nat.le_of_ble_eq_true rfl⟩⟩ (Nat.le_of_ble_eq_true rfl) ?_
    show Go l D ad aC (rmk m_M_longestRow) _ m_M_longestRow 18 [some (.ref a0), some (.int x1), some (.int x2), some (.int x3), some (.int x4), some (.int x5), some (.int x6)] [.int v1, .int x6] h 0 0
    refine Go.ic_ge (off := 65) (tgt := 83) (by decide +kernel) (by decide) (fun c3 => ?_) (fun c3 => ?_)
    · replace e := ite_t c3 e
      refine Go.run (pc' := 84) [.iload_n 2] (ls' := [some (.ref a0), some (.int x1), some (.int x2), some (.int x3), some (.int x4), some (.int x5), some (.int x6)]) (st' := [.int x2]) (by decide +kernel) rfl rfl ?_
      refine Go.if_eq (off := 7) (tgt := 91) (by decide +kernel) (by decide) (fun c4 => ?_) (fun c4 => ?_)
      · replace e := ite_t c4 e
        refine Go.run (pc' := 93) [.iload 4] (ls' := [some (.ref a0), some (.int x1), some (.int x2), some (.int x3), some (.int x4), some (.int x5), some (.int x6)]) (st' := [.int x4]) (by decide +kernel) rfl rfl ?_
        obtain rfl := Option.some.inj e
        exact Go.iret rfl (by decide) (by decide) (by decide +kernel)
      · replace e := ite_f c4 e
        refine Go.run (pc' := 88) [.iload_n 3] (ls' := [some (.ref a0), some (.int x1), some (.int x2), some (.int x3), some (.int x4), some (.int x5), some (.int x6)]) (st' := [.int x3]) (by decide +kernel) rfl rfl ?_
        refine Go.goto (off := 5) (tgt := 93) (by decide +kernel) (by decide) ?_
        obtain rfl := Option.some.inj e
        exact Go.iret rfl (by decide) (by decide) (by decide +kernel)
    · replace e := ite_f c3 e
      refine Go.run (pc' := 25) [.aload_n 0, .iload_n 1, .iload 6] (ls' := [some (.ref a0), some (.int x1), some (.int x2), some (.int x3), some (.int x4), some (.int x5), some (.int x6)]) (st' := [.int x6, .int x1, .ref a0]) (by decide +kernel) rfl rfl ?_
      obtain ⟨v5, e6, e⟩ := bd_inv e
      refine Go.callS (M2 := m_M_standsAt) (as := [.ref a0, .int x1, .int x6]) (rest := []) (v := some (.int v5)) (h1 := h) (x_M_standsAt hf hI k0 q0 e6) ws_M_79 (by decide +kernel) rfl rfl ⟨⟨Nat.le_of_ble_eq_true rfl, Nat.le_of_ble_eq_true rfl⟩, ⟨Nat.le_of_ble_eq_true rfl, Nat.le_of_ble_eq_true rfl⟩⟩ (Nat.le_of_ble_eq_true rfl) ?_
      show Go l D ad aC (rmk m_M_longestRow) _ m_M_longestRow 28 [some (.ref a0), some (.int x1), some (.int x2), some (.int x3), some (.int x4), some (.int x5), some (.int x6)] [.int v5] h 0 0
      refine Go.run (pc' := 29) [.iconst (-1)] (ls' := [some (.ref a0), some (.int x1), some (.int x2), some (.int x3), some (.int x4), some (.int x5), some (.int x6)]) (st' := [.int (-1 : Int32), .int v5]) (by decide +kernel) rfl rfl ?_
      refine Go.ic_ne (off := 10) (tgt := 39) (by decide +kernel) (by decide) (fun c7 => ?_) (fun c7 => ?_)
      · replace e := ite_f c7 e
        refine Go.run (pc' := 40) [.iconst 0] (ls' := [some (.ref a0), some (.int x1), some (.int x2), some (.int x3), some (.int x4), some (.int x5), some (.int x6)]) (st' := [.int (0 : Int32)]) (by decide +kernel) rfl rfl ?_
        refine Go.wk' (wks (wks (wks (wks (wks (wkn (wks wk0))))))) ?_
        exact x_M_longestRow_40 hf hI (fun kk0 qq0 e => ih kk0 qq0 e) k0 q0 e
      · replace e := ite_t c7 e
        refine Go.run (pc' := 36) [.iload 5, .iconst 1, .iadd] (ls' := [some (.ref a0), some (.int x1), some (.int x2), some (.int x3), some (.int x4), some (.int x5), some (.int x6)]) (st' := [.int (x5 + (1 : Int32))]) (by decide +kernel) rfl rfl ?_
        refine Go.goto (off := 4) (tgt := 40) (by decide +kernel) (by decide) ?_
        refine Go.wk' (wks (wks (wks (wks (wks (wkn (wks wk0))))))) ?_
        exact x_M_longestRow_40 hf hI (fun kk0 qq0 e => ih kk0 qq0 e) k0 q0 e
def f_M_longestRow (h : HP) (a0 : Nat) (x1 : Int32) (x2 : Int32) : Option (Int32) :=
  f_M_longestRow_11 h 4096 a0 x1 x2 (-1 : Int32) (0 : Int32) (0 : Int32) (0 : Int32)
set_option maxHeartbeats 1000000 in
theorem x_M_longestRow {l : Launch} {D : va_G} {ad : Nat → Nat} {aC : Nat → ClassId} (hf : l.flags = flags0) (hI : Inj ad) {h : HP} {a0 : Nat} {x1 : Int32} {x2 : Int32} {r : Int32} (k0 : knd a0 = 10) (q0 : alen a0 = 196) (e : f_M_longestRow h a0 x1 x2 = some r) : CT l D ad aC m_M_longestRow [.ref a0, .int x1, .int x2] h (.inl (some (.int r))) h := by
  refine CT.ofGo (by decide +kernel) rfl (Nat.le_of_ble_eq_true rfl) ?_
  unfold f_M_longestRow at e
  show Go l D ad aC (rmk m_M_longestRow) _ m_M_longestRow 0 [some (.ref a0), some (.int x1), some (.int x2), none, none, none, none] [] h 0 0
  refine Go.run (pc' := 11) [.iconst (-1), .istore_n 3, .iconst 0, .istore 4, .iconst 0, .istore 5, .iconst 0, .istore 6] (ls' := [some (.ref a0), some (.int x1), some (.int x2), some (.int (-1 : Int32)), some (.int (0 : Int32)), some (.int (0 : Int32)), some (.int (0 : Int32))]) (st' := []) (by decide +kernel) rfl rfl ?_
  exact x_M_longestRow_11 hf hI 4096 k0 q0 e
def f_M_wallOf_131 (k96_ : Nat → Int32 → Int32 → Int32 → HP → Option (Int32 × HP)) (a0 : Nat) (x1 : Int32) (x4 : Int32) (s0 : Int32) (s1 : Int32) (h : HP) : Option (Int32 × HP) :=
  k96_ a0 x1 (s0 + s1) (x4 + (1 : Int32)) h
set_option maxHeartbeats 1000000 in
theorem x_M_wallOf_131 {l : Launch} {D : va_G} {ad : Nat → Nat} {aC : Nat → ClassId} (hf : l.flags = flags0) (hI : Inj ad) {k96_ : Nat → Int32 → Int32 → Int32 → HP → Option (Int32 × HP)} (K96_ : ∀ {a0 : Nat} {x1 : Int32} {x3 : Int32} {x4 : Int32} {h : HP} {r : Int32 × HP}, knd a0 = 8 → k96_ a0 x1 x3 x4 h = some r → Go l D ad aC (rmk m_M_wallOf) (QM D ad aC m_M_wallOf (.inl (some (.int r.1))) r.2) m_M_wallOf 96 [some (.ref a0), some (.int x1), none, some (.int x3), some (.int x4)] [] h 0 0) {a0 : Nat} {x1 : Int32} {x4 : Int32} {s0 : Int32} {s1 : Int32} {h : HP} {r : Int32 × HP} (k0 : knd a0 = 8) (e : f_M_wallOf_131 k96_ a0 x1 x4 s0 s1 h = some r) : Go l D ad aC (rmk m_M_wallOf) (QM D ad aC m_M_wallOf (.inl (some (.int r.1))) r.2) m_M_wallOf 131 [some (.ref a0), some (.int x1), none, none, some (.int x4)] [.int s1, .int s0] h 0 0 := by
  unfold f_M_wallOf_131 at e
  refine Go.run (pc' := 136) [.iadd, .istore_n 3, .iinc 4 (1)] (ls' := [some (.ref a0), some (.int x1), none, some (.int (s0 + s1)), some (.int (x4 + (1 : Int32)))]) (st' := []) (by decide +kernel) rfl rfl ?_
  refine Go.goto (off := -40) (tgt := 96) (by decide +kernel) (by decide) ?_
  exact K96_ k0 e
def f_M_wallOf_96  : Nat → Nat → Int32 → Int32 → Int32 → HP → Option (Int32 × HP)
  | 0, _, _, _, _, _ => none
  | n + 1, a0, x1, x3, x4, h =>
    if ib (185 : Int32) 196 = true then
    if (h (fld a0 1) (185 : Int32).toNatClampNeg) ≤ x4 then
      some (x3, h)
    else
      (f_M_spot h x4).bind fun v3 =>
      if ib (v3 + (3 : Int32)) 196 = true then
      if (h (fld a0 1) (v3 + (3 : Int32)).toNatClampNeg) = x1 then
        f_M_wallOf_131 (f_M_wallOf_96 n) a0 x1 x4 x3 (1 : Int32) h
      else
        f_M_wallOf_131 (f_M_wallOf_96 n) a0 x1 x4 x3 (0 : Int32) h
      else none
    else none
set_option maxHeartbeats 1000000 in
theorem x_M_wallOf_96 {l : Launch} {D : va_G} {ad : Nat → Nat} {aC : Nat → ClassId} (hf : l.flags = flags0) (hI : Inj ad) : ∀ (n : Nat) {a0 : Nat} {x1 : Int32} {x3 : Int32} {x4 : Int32} {h : HP} {r : Int32 × HP}, knd a0 = 8 → f_M_wallOf_96 n a0 x1 x3 x4 h = some r → Go l D ad aC (rmk m_M_wallOf) (QM D ad aC m_M_wallOf (.inl (some (.int r.1))) r.2) m_M_wallOf 96 [some (.ref a0), some (.int x1), none, some (.int x3), some (.int x4)] [] h 0 0 := by
  intro n
  induction n with
  | zero => intro a0 x1 x3 x4 h r k0 e; exact no_none e
  | succ n ih =>
    intro a0 x1 x3 x4 h r k0 e
    rw [f_M_wallOf_96] at e
    refine Go.run (pc' := 99) [.iload 4, .aload_n 0] (ls' := [some (.ref a0), some (.int x1), none, some (.int x3), some (.int x4)]) (st' := [.ref a0, .int x4]) (by decide +kernel) rfl rfl ?_
    refine Go.getR fo_M_7 k0 (by decide +kernel) ?_
    refine Go.run (pc' := 105) [.sipush (185)] (ls' := [some (.ref a0), some (.int x1), none, some (.int x3), some (.int x4)]) (st' := [.int (185 : Int32), .ref (fld a0 1), .int x4]) (by decide +kernel) rfl rfl ?_
    obtain ⟨g1, e⟩ := gd_inv e
    refine Go.iald (kf_8_j 1 k0 (by decide) (by decide)) (al_8_j 1 k0 (by decide) (by decide) rfl) g1 (by decide +kernel) ?_
    refine Go.ic_ge (off := 33) (tgt := 139) (by decide +kernel) (by decide) (fun c2 => ?_) (fun c2 => ?_)
    · replace e := ite_t c2 e
      refine Go.run (pc' := 140) [.iload_n 3] (ls' := [some (.ref a0), some (.int x1), none, some (.int x3), some (.int x4)]) (st' := [.int x3]) (by decide +kernel) rfl rfl ?_
      obtain rfl := Option.some.inj e
      exact Go.iret rfl (by decide) (by decide) (by decide +kernel)
    · replace e := ite_f c2 e
      refine Go.run (pc' := 111) [.iload_n 3, .aload_n 0] (ls' := [some (.ref a0), some (.int x1), none, some (.int x3), some (.int x4)]) (st' := [.ref a0, .int x3]) (by decide +kernel) rfl rfl ?_
      refine Go.getR fo_M_7 k0 (by decide +kernel) ?_
      refine Go.run (pc' := 116) [.iload 4] (ls' := [some (.ref a0), some (.int x1), none, some (.int x3), some (.int x4)]) (st' := [.int x4, .ref (fld a0 1), .int x3]) (by decide +kernel) rfl rfl ?_
      obtain ⟨v3, e4, e⟩ := bd_inv e
      refine Go.callS (M2 := m_M_spot) (as := [.int x4]) (rest := [.ref (fld a0 1), .int x3]) (v := some (.int v3)) (h1 := h) (x_M_spot hf hI  e4) ws_M_71 (by decide +kernel) rfl rfl ⟨⟨Nat.le_of_ble_eq_true rfl, Nat.le_of_ble_eq_true rfl⟩, ⟨Nat.le_of_ble_eq_true rfl, Nat.le_of_ble_eq_true rfl⟩⟩ (Nat.le_of_ble_eq_true rfl) ?_
      show Go l D ad aC (rmk m_M_wallOf) _ m_M_wallOf 119 [some (.ref a0), some (.int x1), none, some (.int x3), some (.int x4)] [.int v3, .ref (fld a0 1), .int x3] h 0 0
      refine Go.run (pc' := 121) [.iconst 3, .iadd] (ls' := [some (.ref a0), some (.int x1), none, some (.int x3), some (.int x4)]) (st' := [.int (v3 + (3 : Int32)), .ref (fld a0 1), .int x3]) (by decide +kernel) rfl rfl ?_
      obtain ⟨g5, e⟩ := gd_inv e
      refine Go.iald (kf_8_j 1 k0 (by decide) (by decide)) (al_8_j 1 k0 (by decide) (by decide) rfl) g5 (by decide +kernel) ?_
      refine Go.run (pc' := 123) [.iload_n 1] (ls' := [some (.ref a0), some (.int x1), none, some (.int x3), some (.int x4)]) (st' := [.int x1, .int (h (fld a0 1) (v3 + (3 : Int32)).toNatClampNeg), .int x3]) (by decide +kernel) rfl rfl ?_
      refine Go.ic_ne (off := 7) (tgt := 130) (by decide +kernel) (by decide) (fun c6 => ?_) (fun c6 => ?_)
      · replace e := ite_f c6 e
        refine Go.run (pc' := 131) [.iconst 0] (ls' := [some (.ref a0), some (.int x1), none, some (.int x3), some (.int x4)]) (st' := [.int (0 : Int32), .int x3]) (by decide +kernel) rfl rfl ?_
        refine Go.wk' (wks (wks (wks (wkn (wks wk0))))) ?_
        exact x_M_wallOf_131 hf hI (fun kk0 e => ih kk0 e) k0 e
      · replace e := ite_t c6 e
        refine Go.run (pc' := 127) [.iconst 1] (ls' := [some (.ref a0), some (.int x1), none, some (.int x3), some (.int x4)]) (st' := [.int (1 : Int32), .int x3]) (by decide +kernel) rfl rfl ?_
        refine Go.goto (off := 4) (tgt := 131) (by decide +kernel) (by decide) ?_
        refine Go.wk' (wks (wks (wks (wkn (wks wk0))))) ?_
        exact x_M_wallOf_131 hf hI (fun kk0 e => ih kk0 e) k0 e
def f_M_wallOf_153  : Nat → Nat → Int32 → Int32 → Int32 → HP → Option (Int32 × HP)
  | 0, _, _, _, _, _ => none
  | n + 1, a0, x1, x3, x4, h =>
    if (30 : Int32) ≤ x4 then
      some (x3, h)
    else
      if ib (((30 : Int32) * x1) + x4) 120 = true then
      f_M_wallOf_153 n a0 x1 (x3 + (h (fld a0 8) (((30 : Int32) * x1) + x4).toNatClampNeg)) (x4 + (1 : Int32)) h
      else none
set_option maxHeartbeats 1000000 in
theorem x_M_wallOf_153 {l : Launch} {D : va_G} {ad : Nat → Nat} {aC : Nat → ClassId} (hf : l.flags = flags0) (hI : Inj ad) : ∀ (n : Nat) {a0 : Nat} {x1 : Int32} {x3 : Int32} {x4 : Int32} {h : HP} {r : Int32 × HP}, knd a0 = 8 → f_M_wallOf_153 n a0 x1 x3 x4 h = some r → Go l D ad aC (rmk m_M_wallOf) (QM D ad aC m_M_wallOf (.inl (some (.int r.1))) r.2) m_M_wallOf 153 [some (.ref a0), some (.int x1), none, some (.int x3), some (.int x4)] [] h 0 0 := by
  intro n
  induction n with
  | zero => intro a0 x1 x3 x4 h r k0 e; exact no_none e
  | succ n ih =>
    intro a0 x1 x3 x4 h r k0 e
    rw [f_M_wallOf_153] at e
    refine Go.run (pc' := 157) [.iload 4, .bipush (30)] (ls' := [some (.ref a0), some (.int x1), none, some (.int x3), some (.int x4)]) (st' := [.int (30 : Int32), .int x4]) (by decide +kernel) rfl rfl ?_
    refine Go.ic_ge (off := 24) (tgt := 181) (by decide +kernel) (by decide) (fun c1 => ?_) (fun c1 => ?_)
    · replace e := ite_t c1 e
      refine Go.run (pc' := 182) [.iload_n 3] (ls' := [some (.ref a0), some (.int x1), none, some (.int x3), some (.int x4)]) (st' := [.int x3]) (by decide +kernel) rfl rfl ?_
      obtain rfl := Option.some.inj e
      exact Go.iret rfl (by decide) (by decide) (by decide +kernel)
    · replace e := ite_f c1 e
      refine Go.run (pc' := 162) [.iload_n 3, .aload_n 0] (ls' := [some (.ref a0), some (.int x1), none, some (.int x3), some (.int x4)]) (st' := [.ref a0, .int x3]) (by decide +kernel) rfl rfl ?_
      refine Go.getR fo_M_29 k0 (by decide +kernel) ?_
      refine Go.run (pc' := 172) [.bipush (30), .iload_n 1, .imul, .iload 4, .iadd] (ls' := [some (.ref a0), some (.int x1), none, some (.int x3), some (.int x4)]) (st' := [.int (((30 : Int32) * x1) + x4), .ref (fld a0 8), .int x3]) (by decide +kernel) rfl rfl ?_
      obtain ⟨g2, e⟩ := gd_inv e
      refine Go.iald (kf_8_j 8 k0 (by decide) (by decide)) (al_8_j 8 k0 (by decide) (by decide) rfl) g2 (by decide +kernel) ?_
      refine Go.run (pc' := 178) [.iadd, .istore_n 3, .iinc 4 (1)] (ls' := [some (.ref a0), some (.int x1), none, some (.int (x3 + (h (fld a0 8) (((30 : Int32) * x1) + x4).toNatClampNeg))), some (.int (x4 + (1 : Int32)))]) (st' := []) (by decide +kernel) rfl rfl ?_
      refine Go.goto (off := -25) (tgt := 153) (by decide +kernel) (by decide) ?_
      exact ih k0 e
def f_M_wallOf_198  (b0 : Nat) (s1 : Int32) (s2 : Int32) (h : HP) : Option (Int32 × HP) :=
  (f_M_longestRow h b0 s1 s2).bind fun v1 =>
  some (v1, h)
set_option maxHeartbeats 1000000 in
theorem x_M_wallOf_198 {l : Launch} {D : va_G} {ad : Nat → Nat} {aC : Nat → ClassId} (hf : l.flags = flags0) (hI : Inj ad) {b0 : Nat} {s1 : Int32} {s2 : Int32} {h : HP} {r : Int32 × HP} (kb0 : knd b0 = 10) (qb0 : alen b0 = 196) (e : f_M_wallOf_198 b0 s1 s2 h = some r) : Go l D ad aC (rmk m_M_wallOf) (QM D ad aC m_M_wallOf (.inl (some (.int r.1))) r.2) m_M_wallOf 198 [none, none, none, none, none] [.int s2, .int s1, .ref b0] h 0 0 := by
  unfold f_M_wallOf_198 at e
  obtain ⟨v1, e2, e⟩ := bd_inv e
  refine Go.callS (M2 := m_M_longestRow) (as := [.ref b0, .int s1, .int s2]) (rest := []) (v := some (.int v1)) (h1 := h) (x_M_longestRow hf hI kb0 qb0 e2) ws_M_255 (by decide +kernel) rfl rfl ⟨⟨Nat.le_of_ble_eq_true rfl, Nat.le_of_ble_eq_true rfl⟩, ⟨Nat.le_of_ble_eq_true rfl, Nat.le_of_ble_eq_true rfl⟩⟩ (Nat.le_of_ble_eq_true rfl) ?_
  show Go l D ad aC (rmk m_M_wallOf) _ m_M_wallOf 201 [none, none, none, none, none] [.int v1] h 0 0
  obtain rfl := Option.some.inj e
  exact Go.iret rfl (by decide) (by decide) (by decide +kernel)
def f_M_wallOf_33  (a0 : Nat) (x1 : Int32) (x2 : Int32) (b0 : Nat) (s1 : Int32) (h : HP) : Option (Int32 × HP) :=
  (f_M_refused h b0 s1).bind fun v1 =>
  if v1.1 = 0 then
    (f_M_share v1.2 a0 (fld a0 1)).bind fun v4 =>
    if x2 = 0 then
      (f_M_size v4 (fld a0 1) x1).bind fun v7 =>
      some (v7, v4)
    else
      if x2 = 1 then
        f_M_wallOf_96 4096 a0 x1 (0 : Int32) (0 : Int32) v4
      else
        if x2 = 2 then
          (f_M_plugsAt v4 (fld a0 1) x1).bind fun v11 =>
          some (v11, v4)
        else
          if x2 = 3 then
            f_M_wallOf_153 4096 a0 x1 (0 : Int32) (0 : Int32) v4
          else
            if x2 = (5 : Int32) then
              f_M_wallOf_198 (fld a0 1) x1 (1 : Int32) v4
            else
              f_M_wallOf_198 (fld a0 1) x1 (0 : Int32) v4
  else
    some ((0 : Int32), v1.2)
set_option maxHeartbeats 1000000 in
theorem x_M_wallOf_33 {l : Launch} {D : va_G} {ad : Nat → Nat} {aC : Nat → ClassId} (hf : l.flags = flags0) (hI : Inj ad) {a0 : Nat} {x1 : Int32} {x2 : Int32} {b0 : Nat} {s1 : Int32} {h : HP} {r : Int32 × HP} (k0 : knd a0 = 8) (kb0 : knd b0 = 8) (e : f_M_wallOf_33 a0 x1 x2 b0 s1 h = some r) : Go l D ad aC (rmk m_M_wallOf) (QM D ad aC m_M_wallOf (.inl (some (.int r.1))) r.2) m_M_wallOf 33 [some (.ref a0), some (.int x1), some (.int x2), none, none] [.int s1, .ref b0] h 0 0 := by
  unfold f_M_wallOf_33 at e
  obtain ⟨v1, e2, e⟩ := bd_inv e
  refine Go.callV (M2 := m_M_refused) (a := b0) (as := [.int s1]) (rest := []) (v := some (.int v1.1)) (h1 := v1.2) (x_M_refused hf hI kb0 e2) wv_M_142 kb0 kc_8 (by decide +kernel) rfl rfl ⟨⟨Nat.le_of_ble_eq_true rfl, Nat.le_of_ble_eq_true rfl⟩, ⟨Nat.le_of_ble_eq_true rfl, Nat.le_of_ble_eq_true rfl⟩⟩ (Nat.le_of_ble_eq_true rfl) ?_
  show Go l D ad aC (rmk m_M_wallOf) _ m_M_wallOf 36 [some (.ref a0), some (.int x1), some (.int x2), none, none] [.int v1.1] v1.2 0 0
  refine Go.if_eq (off := 5) (tgt := 41) (by decide +kernel) (by decide) (fun c3 => ?_) (fun c3 => ?_)
  · replace e := ite_t c3 e
    refine Go.run (pc' := 45) [.iconst 0, .istore_n 3, .aload_n 0, .aload_n 0] (ls' := [some (.ref a0), some (.int x1), some (.int x2), some (.int (0 : Int32)), none]) (st' := [.ref a0, .ref a0]) (by decide +kernel) rfl rfl ?_
    refine Go.getR fo_M_7 k0 (by decide +kernel) ?_
    obtain ⟨v4, e5, e⟩ := bd_inv e
    refine Go.callV (M2 := m_M_share) (a := a0) (as := [.ref (fld a0 1)]) (rest := []) (v := none) (h1 := v4) (x_M_share hf hI k0 (kf_8_j 1 k0 (by decide) (by decide)) (al_8_j 1 k0 (by decide) (by decide) rfl) e5) wv_M_109 k0 kc_8 (by decide +kernel) rfl rfl ⟨⟨Nat.le_of_ble_eq_true rfl, Nat.le_of_ble_eq_true rfl⟩, ⟨Nat.le_of_ble_eq_true rfl, Nat.le_of_ble_eq_true rfl⟩⟩ (Nat.le_of_ble_eq_true rfl) ?_
    show Go l D ad aC (rmk m_M_wallOf) _ m_M_wallOf 51 [some (.ref a0), some (.int x1), some (.int x2), some (.int (0 : Int32)), none] [] v4 0 0
    refine Go.run (pc' := 52) [.iload_n 2] (ls' := [some (.ref a0), some (.int x1), some (.int x2), some (.int (0 : Int32)), none]) (st' := [.int x2]) (by decide +kernel) rfl rfl ?_
    rcases Decidable.em (x2 = 0) with c6 | c6
    · replace e := ite_t c6 e
      refine Go.tsIn (dflt := 131) (lo := 0) (hi := 3) (offs := #[32, 41, 89, 98]) (len := 32) (off := 32) (tgt := 84) 0 (by decide +kernel) (by rw [c6]; decide) (by decide) (by decide) (by decide) (by decide) ?_
      refine Go.run (pc' := 85) [.aload_n 0] (ls' := [some (.ref a0), some (.int x1), some (.int x2), some (.int (0 : Int32)), none]) (st' := [.ref a0]) (by decide +kernel) rfl rfl ?_
      refine Go.getR fo_M_7 k0 (by decide +kernel) ?_
      refine Go.run (pc' := 89) [.iload_n 1] (ls' := [some (.ref a0), some (.int x1), some (.int x2), some (.int (0 : Int32)), none]) (st' := [.int x1, .ref (fld a0 1)]) (by decide +kernel) rfl rfl ?_
      obtain ⟨v7, e8, e⟩ := bd_inv e
      refine Go.callS (M2 := m_M_size) (as := [.ref (fld a0 1), .int x1]) (rest := []) (v := some (.int v7)) (h1 := v4) (x_M_size hf hI (kf_8_j 1 k0 (by decide) (by decide)) (al_8_j 1 k0 (by decide) (by decide) rfl) e8) ws_M_75 (by decide +kernel) rfl rfl ⟨⟨Nat.le_of_ble_eq_true rfl, Nat.le_of_ble_eq_true rfl⟩, ⟨Nat.le_of_ble_eq_true rfl, Nat.le_of_ble_eq_true rfl⟩⟩ (Nat.le_of_ble_eq_true rfl) ?_
      show Go l D ad aC (rmk m_M_wallOf) _ m_M_wallOf 92 [some (.ref a0), some (.int x1), some (.int x2), some (.int (0 : Int32)), none] [.int v7] v4 0 0
      obtain rfl := Option.some.inj e
      exact Go.iret rfl (by decide) (by decide) (by decide +kernel)
    replace e := ite_f c6 e
    rcases Decidable.em (x2 = 1) with c9 | c9
    · replace e := ite_t c9 e
      refine Go.tsIn (dflt := 131) (lo := 0) (hi := 3) (offs := #[32, 41, 89, 98]) (len := 32) (off := 41) (tgt := 93) 1 (by decide +kernel) (by rw [c9]; decide) (by decide) (by decide) (by decide) (by decide) ?_
      refine Go.run (pc' := 96) [.iconst 0, .istore 4] (ls' := [some (.ref a0), some (.int x1), some (.int x2), some (.int (0 : Int32)), some (.int (0 : Int32))]) (st' := []) (by decide +kernel) rfl rfl ?_
      refine Go.wk' (wks (wks (wkn (wks (wks wk0))))) ?_
      exact x_M_wallOf_96 hf hI 4096 k0 e
    replace e := ite_f c9 e
    rcases Decidable.em (x2 = 2) with c10 | c10
    · replace e := ite_t c10 e
      refine Go.tsIn (dflt := 131) (lo := 0) (hi := 3) (offs := #[32, 41, 89, 98]) (len := 32) (off := 89) (tgt := 141) 2 (by decide +kernel) (by rw [c10]; decide) (by decide) (by decide) (by decide) (by decide) ?_
      refine Go.run (pc' := 142) [.aload_n 0] (ls' := [some (.ref a0), some (.int x1), some (.int x2), some (.int (0 : Int32)), none]) (st' := [.ref a0]) (by decide +kernel) rfl rfl ?_
      refine Go.getR fo_M_7 k0 (by decide +kernel) ?_
      refine Go.run (pc' := 146) [.iload_n 1] (ls' := [some (.ref a0), some (.int x1), some (.int x2), some (.int (0 : Int32)), none]) (st' := [.int x1, .ref (fld a0 1)]) (by decide +kernel) rfl rfl ?_
      obtain ⟨v11, e12, e⟩ := bd_inv e
      refine Go.callS (M2 := m_M_plugsAt) (as := [.ref (fld a0 1), .int x1]) (rest := []) (v := some (.int v11)) (h1 := v4) (x_M_plugsAt hf hI (kf_8_j 1 k0 (by decide) (by decide)) (al_8_j 1 k0 (by decide) (by decide) rfl) e12) ws_M_234 (by decide +kernel) rfl rfl ⟨⟨Nat.le_of_ble_eq_true rfl, Nat.le_of_ble_eq_true rfl⟩, ⟨Nat.le_of_ble_eq_true rfl, Nat.le_of_ble_eq_true rfl⟩⟩ (Nat.le_of_ble_eq_true rfl) ?_
      show Go l D ad aC (rmk m_M_wallOf) _ m_M_wallOf 149 [some (.ref a0), some (.int x1), some (.int x2), some (.int (0 : Int32)), none] [.int v11] v4 0 0
      obtain rfl := Option.some.inj e
      exact Go.iret rfl (by decide) (by decide) (by decide +kernel)
    replace e := ite_f c10 e
    rcases Decidable.em (x2 = 3) with c13 | c13
    · replace e := ite_t c13 e
      refine Go.tsIn (dflt := 131) (lo := 0) (hi := 3) (offs := #[32, 41, 89, 98]) (len := 32) (off := 98) (tgt := 150) 3 (by decide +kernel) (by rw [c13]; decide) (by decide) (by decide) (by decide) (by decide) ?_
      refine Go.run (pc' := 153) [.iconst 0, .istore 4] (ls' := [some (.ref a0), some (.int x1), some (.int x2), some (.int (0 : Int32)), some (.int (0 : Int32))]) (st' := []) (by decide +kernel) rfl rfl ?_
      refine Go.wk' (wks (wks (wkn (wks (wks wk0))))) ?_
      exact x_M_wallOf_153 hf hI 4096 k0 e
    replace e := ite_f c13 e
    refine Go.tsOut (dflt := 131) (lo := 0) (hi := 3) (offs := #[32, 41, 89, 98]) (len := 32) (tgt := 183) (by decide +kernel) (by have zc6 := lv_neT c6 (a := 0) rfl; have zc9 := lv_neT c9 (a := 1) rfl; have zc10 := lv_neT c10 (a := 2) rfl; have zc13 := lv_neT c13 (a := 3) rfl; omega) (by decide) ?_
    refine Go.run (pc' := 184) [.aload_n 0] (ls' := [some (.ref a0), some (.int x1), some (.int x2), some (.int (0 : Int32)), none]) (st' := [.ref a0]) (by decide +kernel) rfl rfl ?_
    refine Go.getR fo_M_7 k0 (by decide +kernel) ?_
    refine Go.run (pc' := 190) [.iload_n 1, .iload_n 2, .iconst 5] (ls' := [some (.ref a0), some (.int x1), some (.int x2), some (.int (0 : Int32)), none]) (st' := [.int (5 : Int32), .int x2, .int x1, .ref (fld a0 1)]) (by decide +kernel) rfl rfl ?_
    refine Go.ic_ne (off := 7) (tgt := 197) (by decide +kernel) (by decide) (fun c14 => ?_) (fun c14 => ?_)
    · replace e := ite_f c14 e
      refine Go.run (pc' := 198) [.iconst 0] (ls' := [some (.ref a0), some (.int x1), some (.int x2), some (.int (0 : Int32)), none]) (st' := [.int (0 : Int32), .int x1, .ref (fld a0 1)]) (by decide +kernel) rfl rfl ?_
      refine Go.wk' (wkn (wkn (wkn (wkn (wks wk0))))) ?_
      exact x_M_wallOf_198 hf hI (kf_8_j 1 k0 (by decide) (by decide)) (al_8_j 1 k0 (by decide) (by decide) rfl) e
    · replace e := ite_t c14 e
      refine Go.run (pc' := 194) [.iconst 1] (ls' := [some (.ref a0), some (.int x1), some (.int x2), some (.int (0 : Int32)), none]) (st' := [.int (1 : Int32), .int x1, .ref (fld a0 1)]) (by decide +kernel) rfl rfl ?_
      refine Go.goto (off := 4) (tgt := 198) (by decide +kernel) (by decide) ?_
      refine Go.wk' (wkn (wkn (wkn (wkn (wks wk0))))) ?_
      exact x_M_wallOf_198 hf hI (kf_8_j 1 k0 (by decide) (by decide)) (al_8_j 1 k0 (by decide) (by decide) rfl) e
  · replace e := ite_f c3 e
    refine Go.run (pc' := 40) [.iconst 0] (ls' := [some (.ref a0), some (.int x1), some (.int x2), none, none]) (st' := [.int (0 : Int32)]) (by decide +kernel) rfl rfl ?_
    obtain rfl := Option.some.inj e
    exact Go.iret rfl (by decide) (by decide) (by decide +kernel)
def f_M_wallOf (h : HP) (a0 : Nat) (x1 : Int32) (x2 : Int32) : Option (Int32 × HP) :=
  (f_M_isWall h (fld a0 1) x1).bind fun v1 =>
  if v1 = 0 then
    f_M_wallOf_33 a0 x1 x2 a0 (1 : Int32) h
  else
    (f_M_in h x2.toInt64 (0 : Int64) (5 : Int64)).bind fun v4 =>
    if v4 = 0 then
      f_M_wallOf_33 a0 x1 x2 a0 (2 : Int32) h
    else
      f_M_wallOf_33 a0 x1 x2 a0 (0 : Int32) h
set_option maxHeartbeats 1000000 in
theorem x_M_wallOf {l : Launch} {D : va_G} {ad : Nat → Nat} {aC : Nat → ClassId} (hf : l.flags = flags0) (hI : Inj ad) {h : HP} {a0 : Nat} {x1 : Int32} {x2 : Int32} {r : Int32 × HP} (k0 : knd a0 = 8) (e : f_M_wallOf h a0 x1 x2 = some r) : CT l D ad aC m_M_wallOf [.ref a0, .int x1, .int x2] h (.inl (some (.int r.1))) r.2 := by
  refine CT.ofGo (by decide +kernel) rfl (Nat.le_of_ble_eq_true rfl) ?_
  unfold f_M_wallOf at e
  show Go l D ad aC (rmk m_M_wallOf) _ m_M_wallOf 0 [some (.ref a0), some (.int x1), some (.int x2), none, none] [] h 0 0
  refine Go.run (pc' := 2) [.aload_n 0, .aload_n 0] (ls' := [some (.ref a0), some (.int x1), some (.int x2), none, none]) (st' := [.ref a0, .ref a0]) (by decide +kernel) rfl rfl ?_
  refine Go.getR fo_M_7 k0 (by decide +kernel) ?_
  refine Go.run (pc' := 6) [.iload_n 1] (ls' := [some (.ref a0), some (.int x1), some (.int x2), none, none]) (st' := [.int x1, .ref (fld a0 1), .ref a0]) (by decide +kernel) rfl rfl ?_
  obtain ⟨v1, e2, e⟩ := bd_inv e
  refine Go.callS (M2 := m_M_isWall) (as := [.ref (fld a0 1), .int x1]) (rest := [.ref a0]) (v := some (.int v1)) (h1 := h) (x_M_isWall hf hI (kf_8_j 1 k0 (by decide) (by decide)) (al_8_j 1 k0 (by decide) (by decide) rfl) e2) ws_M_55 (by decide +kernel) rfl rfl ⟨⟨Nat.le_of_ble_eq_true rfl, Nat.le_of_ble_eq_true rfl⟩, ⟨Nat.le_of_ble_eq_true rfl, Nat.le_of_ble_eq_true rfl⟩⟩ (Nat.le_of_ble_eq_true rfl) ?_
  show Go l D ad aC (rmk m_M_wallOf) _ m_M_wallOf 9 [some (.ref a0), some (.int x1), some (.int x2), none, none] [.int v1, .ref a0] h 0 0
  refine Go.if_ne (off := 7) (tgt := 16) (by decide +kernel) (by decide) (fun c3 => ?_) (fun c3 => ?_)
  · replace e := ite_f c3 e
    refine Go.run (pc' := 19) [.iload_n 2, .i2l, .lconst 0] (ls' := [some (.ref a0), some (.int x1), some (.int x2), none, none]) (st' := [.long (0 : Int64), .long x2.toInt64, .ref a0]) (by decide +kernel) rfl rfl ?_
    refine Go.ldc2 lo_M_63 (by decide +kernel) ?_
    obtain ⟨v4, e5, e⟩ := bd_inv e
    refine Go.callS (M2 := m_M_in) (as := [.long x2.toInt64, .long (0 : Int64), .long (5 : Int64)]) (rest := [.ref a0]) (v := some (.int v4)) (h1 := h) (x_M_in hf hI  e5) ws_M_51 (by decide +kernel) rfl rfl ⟨⟨Nat.le_of_ble_eq_true rfl, Nat.le_of_ble_eq_true rfl⟩, ⟨Nat.le_of_ble_eq_true rfl, Nat.le_of_ble_eq_true rfl⟩⟩ (Nat.le_of_ble_eq_true rfl) ?_
    show Go l D ad aC (rmk m_M_wallOf) _ m_M_wallOf 25 [some (.ref a0), some (.int x1), some (.int x2), none, none] [.int v4, .ref a0] h 0 0
    refine Go.if_ne (off := 7) (tgt := 32) (by decide +kernel) (by decide) (fun c6 => ?_) (fun c6 => ?_)
    · replace e := ite_f c6 e
      refine Go.run (pc' := 33) [.iconst 0] (ls' := [some (.ref a0), some (.int x1), some (.int x2), none, none]) (st' := [.int (0 : Int32), .ref a0]) (by decide +kernel) rfl rfl ?_
      exact x_M_wallOf_33 hf hI k0 k0 e
    · replace e := ite_t c6 e
      refine Go.run (pc' := 29) [.iconst 2] (ls' := [some (.ref a0), some (.int x1), some (.int x2), none, none]) (st' := [.int (2 : Int32), .ref a0]) (by decide +kernel) rfl rfl ?_
      refine Go.goto (off := 4) (tgt := 33) (by decide +kernel) (by decide) ?_
      exact x_M_wallOf_33 hf hI k0 k0 e
  · replace e := ite_t c3 e
    refine Go.run (pc' := 13) [.iconst 1] (ls' := [some (.ref a0), some (.int x1), some (.int x2), none, none]) (st' := [.int (1 : Int32), .ref a0]) (by decide +kernel) rfl rfl ?_
    refine Go.goto (off := 20) (tgt := 33) (by decide +kernel) (by decide) ?_
    exact x_M_wallOf_33 hf hI k0 k0 e
def f_M_metreOf_34  (a0 : Nat) (x1 : Int32) (x2 : Int32) (x3 : Int32) (b0 : Nat) (s1 : Int32) (h : HP) : Option (Int32 × HP) :=
  (f_M_refused h b0 s1).bind fun v1 =>
  if v1.1 = 0 then
    (f_M_share v1.2 a0 (fld a0 1)).bind fun v4 =>
    if x3 = 0 then
      (f_M_plugs v4 (fld a0 1) x1 x2).bind fun v11 =>
      some (v11, v4)
    else
      if x3 = (1 : Int32) then
        if ib (((30 : Int32) * x1) + x2) 120 = true then
        some (v4 (fld a0 8) (((30 : Int32) * x1) + x2).toNatClampNeg, v4)
        else none
      else
        (f_M_standsAt v4 (fld a0 1) x1 x2).bind fun v8 =>
        some (v8, v4)
  else
    some ((0 : Int32), v1.2)
set_option maxHeartbeats 1000000 in
theorem x_M_metreOf_34 {l : Launch} {D : va_G} {ad : Nat → Nat} {aC : Nat → ClassId} (hf : l.flags = flags0) (hI : Inj ad) {a0 : Nat} {x1 : Int32} {x2 : Int32} {x3 : Int32} {b0 : Nat} {s1 : Int32} {h : HP} {r : Int32 × HP} (k0 : knd a0 = 8) (kb0 : knd b0 = 8) (e : f_M_metreOf_34 a0 x1 x2 x3 b0 s1 h = some r) : Go l D ad aC (rmk m_M_metreOf) (QM D ad aC m_M_metreOf (.inl (some (.int r.1))) r.2) m_M_metreOf 34 [some (.ref a0), some (.int x1), some (.int x2), some (.int x3)] [.int s1, .ref b0] h 0 0 := by
  unfold f_M_metreOf_34 at e
  obtain ⟨v1, e2, e⟩ := bd_inv e
  refine Go.callV (M2 := m_M_refused) (a := b0) (as := [.int s1]) (rest := []) (v := some (.int v1.1)) (h1 := v1.2) (x_M_refused hf hI kb0 e2) wv_M_142 kb0 kc_8 (by decide +kernel) rfl rfl ⟨⟨Nat.le_of_ble_eq_true rfl, Nat.le_of_ble_eq_true rfl⟩, ⟨Nat.le_of_ble_eq_true rfl, Nat.le_of_ble_eq_true rfl⟩⟩ (Nat.le_of_ble_eq_true rfl) ?_
  show Go l D ad aC (rmk m_M_metreOf) _ m_M_metreOf 37 [some (.ref a0), some (.int x1), some (.int x2), some (.int x3)] [.int v1.1] v1.2 0 0
  refine Go.if_eq (off := 5) (tgt := 42) (by decide +kernel) (by decide) (fun c3 => ?_) (fun c3 => ?_)
  · replace e := ite_t c3 e
    refine Go.run (pc' := 44) [.aload_n 0, .aload_n 0] (ls' := [some (.ref a0), some (.int x1), some (.int x2), some (.int x3)]) (st' := [.ref a0, .ref a0]) (by decide +kernel) rfl rfl ?_
    refine Go.getR fo_M_7 k0 (by decide +kernel) ?_
    obtain ⟨v4, e5, e⟩ := bd_inv e
    refine Go.callV (M2 := m_M_share) (a := a0) (as := [.ref (fld a0 1)]) (rest := []) (v := none) (h1 := v4) (x_M_share hf hI k0 (kf_8_j 1 k0 (by decide) (by decide)) (al_8_j 1 k0 (by decide) (by decide) rfl) e5) wv_M_109 k0 kc_8 (by decide +kernel) rfl rfl ⟨⟨Nat.le_of_ble_eq_true rfl, Nat.le_of_ble_eq_true rfl⟩, ⟨Nat.le_of_ble_eq_true rfl, Nat.le_of_ble_eq_true rfl⟩⟩ (Nat.le_of_ble_eq_true rfl) ?_
    show Go l D ad aC (rmk m_M_metreOf) _ m_M_metreOf 50 [some (.ref a0), some (.int x1), some (.int x2), some (.int x3)] [] v4 0 0
    refine Go.run (pc' := 51) [.iload_n 3] (ls' := [some (.ref a0), some (.int x1), some (.int x2), some (.int x3)]) (st' := [.int x3]) (by decide +kernel) rfl rfl ?_
    refine Go.if_ne (off := 15) (tgt := 66) (by decide +kernel) (by decide) (fun c6 => ?_) (fun c6 => ?_)
    · replace e := ite_f c6 e
      refine Go.run (pc' := 68) [.iload_n 3, .iconst 1] (ls' := [some (.ref a0), some (.int x1), some (.int x2), some (.int x3)]) (st' := [.int (1 : Int32), .int x3]) (by decide +kernel) rfl rfl ?_
      refine Go.ic_ne (off := 17) (tgt := 85) (by decide +kernel) (by decide) (fun c7 => ?_) (fun c7 => ?_)
      · replace e := ite_f c7 e
        refine Go.run (pc' := 86) [.aload_n 0] (ls' := [some (.ref a0), some (.int x1), some (.int x2), some (.int x3)]) (st' := [.ref a0]) (by decide +kernel) rfl rfl ?_
        refine Go.getR fo_M_7 k0 (by decide +kernel) ?_
        refine Go.run (pc' := 91) [.iload_n 1, .iload_n 2] (ls' := [some (.ref a0), some (.int x1), some (.int x2), some (.int x3)]) (st' := [.int x2, .int x1, .ref (fld a0 1)]) (by decide +kernel) rfl rfl ?_
        obtain ⟨v8, e9, e⟩ := bd_inv e
        refine Go.callS (M2 := m_M_standsAt) (as := [.ref (fld a0 1), .int x1, .int x2]) (rest := []) (v := some (.int v8)) (h1 := v4) (x_M_standsAt hf hI (kf_8_j 1 k0 (by decide) (by decide)) (al_8_j 1 k0 (by decide) (by decide) rfl) e9) ws_M_79 (by decide +kernel) rfl rfl ⟨⟨Nat.le_of_ble_eq_true rfl, Nat.le_of_ble_eq_true rfl⟩, ⟨Nat.le_of_ble_eq_true rfl, Nat.le_of_ble_eq_true rfl⟩⟩ (Nat.le_of_ble_eq_true rfl) ?_
        show Go l D ad aC (rmk m_M_metreOf) _ m_M_metreOf 94 [some (.ref a0), some (.int x1), some (.int x2), some (.int x3)] [.int v8] v4 0 0
        obtain rfl := Option.some.inj e
        exact Go.iret rfl (by decide) (by decide) (by decide +kernel)
      · replace e := ite_t c7 e
        refine Go.run (pc' := 72) [.aload_n 0] (ls' := [some (.ref a0), some (.int x1), some (.int x2), some (.int x3)]) (st' := [.ref a0]) (by decide +kernel) rfl rfl ?_
        refine Go.getR fo_M_29 k0 (by decide +kernel) ?_
        refine Go.run (pc' := 81) [.bipush (30), .iload_n 1, .imul, .iload_n 2, .iadd] (ls' := [some (.ref a0), some (.int x1), some (.int x2), some (.int x3)]) (st' := [.int (((30 : Int32) * x1) + x2), .ref (fld a0 8)]) (by decide +kernel) rfl rfl ?_
        obtain ⟨g10, e⟩ := gd_inv e
        refine Go.iald (kf_8_j 8 k0 (by decide) (by decide)) (al_8_j 8 k0 (by decide) (by decide) rfl) g10 (by decide +kernel) ?_
        refine Go.goto (off := 12) (tgt := 94) (by decide +kernel) (by decide) ?_
        obtain rfl := Option.some.inj e
        exact Go.iret rfl (by decide) (by decide) (by decide +kernel)
    · replace e := ite_t c6 e
      refine Go.run (pc' := 55) [.aload_n 0] (ls' := [some (.ref a0), some (.int x1), some (.int x2), some (.int x3)]) (st' := [.ref a0]) (by decide +kernel) rfl rfl ?_
      refine Go.getR fo_M_7 k0 (by decide +kernel) ?_
      refine Go.run (pc' := 60) [.iload_n 1, .iload_n 2] (ls' := [some (.ref a0), some (.int x1), some (.int x2), some (.int x3)]) (st' := [.int x2, .int x1, .ref (fld a0 1)]) (by decide +kernel) rfl rfl ?_
      obtain ⟨v11, e12, e⟩ := bd_inv e
      refine Go.callS (M2 := m_M_plugs) (as := [.ref (fld a0 1), .int x1, .int x2]) (rest := []) (v := some (.int v11)) (h1 := v4) (x_M_plugs hf hI (kf_8_j 1 k0 (by decide) (by decide)) (al_8_j 1 k0 (by decide) (by decide) rfl) e12) ws_M_83 (by decide +kernel) rfl rfl ⟨⟨Nat.le_of_ble_eq_true rfl, Nat.le_of_ble_eq_true rfl⟩, ⟨Nat.le_of_ble_eq_true rfl, Nat.le_of_ble_eq_true rfl⟩⟩ (Nat.le_of_ble_eq_true rfl) ?_
      show Go l D ad aC (rmk m_M_metreOf) _ m_M_metreOf 63 [some (.ref a0), some (.int x1), some (.int x2), some (.int x3)] [.int v11] v4 0 0
      refine Go.goto (off := 31) (tgt := 94) (by decide +kernel) (by decide) ?_
      obtain rfl := Option.some.inj e
      exact Go.iret rfl (by decide) (by decide) (by decide +kernel)
  · replace e := ite_f c3 e
    refine Go.run (pc' := 41) [.iconst 0] (ls' := [some (.ref a0), some (.int x1), some (.int x2), some (.int x3)]) (st' := [.int (0 : Int32)]) (by decide +kernel) rfl rfl ?_
    obtain rfl := Option.some.inj e
    exact Go.iret rfl (by decide) (by decide) (by decide +kernel)
def f_M_metreOf (h : HP) (a0 : Nat) (x1 : Int32) (x2 : Int32) (x3 : Int32) : Option (Int32 × HP) :=
  (f_M_isMetre h (fld a0 1) x1 x2).bind fun v1 =>
  if v1 = 0 then
    f_M_metreOf_34 a0 x1 x2 x3 a0 (1 : Int32) h
  else
    (f_M_in h x3.toInt64 (0 : Int64) (2 : Int64)).bind fun v4 =>
    if v4 = 0 then
      f_M_metreOf_34 a0 x1 x2 x3 a0 (2 : Int32) h
    else
      f_M_metreOf_34 a0 x1 x2 x3 a0 (0 : Int32) h
set_option maxHeartbeats 1000000 in
theorem x_M_metreOf {l : Launch} {D : va_G} {ad : Nat → Nat} {aC : Nat → ClassId} (hf : l.flags = flags0) (hI : Inj ad) {h : HP} {a0 : Nat} {x1 : Int32} {x2 : Int32} {x3 : Int32} {r : Int32 × HP} (k0 : knd a0 = 8) (e : f_M_metreOf h a0 x1 x2 x3 = some r) : CT l D ad aC m_M_metreOf [.ref a0, .int x1, .int x2, .int x3] h (.inl (some (.int r.1))) r.2 := by
  refine CT.ofGo (by decide +kernel) rfl (Nat.le_of_ble_eq_true rfl) ?_
  unfold f_M_metreOf at e
  show Go l D ad aC (rmk m_M_metreOf) _ m_M_metreOf 0 [some (.ref a0), some (.int x1), some (.int x2), some (.int x3)] [] h 0 0
  refine Go.run (pc' := 2) [.aload_n 0, .aload_n 0] (ls' := [some (.ref a0), some (.int x1), some (.int x2), some (.int x3)]) (st' := [.ref a0, .ref a0]) (by decide +kernel) rfl rfl ?_
  refine Go.getR fo_M_7 k0 (by decide +kernel) ?_
  refine Go.run (pc' := 7) [.iload_n 1, .iload_n 2] (ls' := [some (.ref a0), some (.int x1), some (.int x2), some (.int x3)]) (st' := [.int x2, .int x1, .ref (fld a0 1), .ref a0]) (by decide +kernel) rfl rfl ?_
  obtain ⟨v1, e2, e⟩ := bd_inv e
  refine Go.callS (M2 := m_M_isMetre) (as := [.ref (fld a0 1), .int x1, .int x2]) (rest := [.ref a0]) (v := some (.int v1)) (h1 := h) (x_M_isMetre hf hI (kf_8_j 1 k0 (by decide) (by decide)) (al_8_j 1 k0 (by decide) (by decide) rfl) e2) ws_M_171 (by decide +kernel) rfl rfl ⟨⟨Nat.le_of_ble_eq_true rfl, Nat.le_of_ble_eq_true rfl⟩, ⟨Nat.le_of_ble_eq_true rfl, Nat.le_of_ble_eq_true rfl⟩⟩ (Nat.le_of_ble_eq_true rfl) ?_
  show Go l D ad aC (rmk m_M_metreOf) _ m_M_metreOf 10 [some (.ref a0), some (.int x1), some (.int x2), some (.int x3)] [.int v1, .ref a0] h 0 0
  refine Go.if_ne (off := 7) (tgt := 17) (by decide +kernel) (by decide) (fun c3 => ?_) (fun c3 => ?_)
  · replace e := ite_f c3 e
    refine Go.run (pc' := 20) [.iload_n 3, .i2l, .lconst 0] (ls' := [some (.ref a0), some (.int x1), some (.int x2), some (.int x3)]) (st' := [.long (0 : Int64), .long x3.toInt64, .ref a0]) (by decide +kernel) rfl rfl ?_
    refine Go.ldc2 lo_M_258 (by decide +kernel) ?_
    obtain ⟨v4, e5, e⟩ := bd_inv e
    refine Go.callS (M2 := m_M_in) (as := [.long x3.toInt64, .long (0 : Int64), .long (2 : Int64)]) (rest := [.ref a0]) (v := some (.int v4)) (h1 := h) (x_M_in hf hI  e5) ws_M_51 (by decide +kernel) rfl rfl ⟨⟨Nat.le_of_ble_eq_true rfl, Nat.le_of_ble_eq_true rfl⟩, ⟨Nat.le_of_ble_eq_true rfl, Nat.le_of_ble_eq_true rfl⟩⟩ (Nat.le_of_ble_eq_true rfl) ?_
    show Go l D ad aC (rmk m_M_metreOf) _ m_M_metreOf 26 [some (.ref a0), some (.int x1), some (.int x2), some (.int x3)] [.int v4, .ref a0] h 0 0
    refine Go.if_ne (off := 7) (tgt := 33) (by decide +kernel) (by decide) (fun c6 => ?_) (fun c6 => ?_)
    · replace e := ite_f c6 e
      refine Go.run (pc' := 34) [.iconst 0] (ls' := [some (.ref a0), some (.int x1), some (.int x2), some (.int x3)]) (st' := [.int (0 : Int32), .ref a0]) (by decide +kernel) rfl rfl ?_
      exact x_M_metreOf_34 hf hI k0 k0 e
    · replace e := ite_t c6 e
      refine Go.run (pc' := 30) [.iconst 2] (ls' := [some (.ref a0), some (.int x1), some (.int x2), some (.int x3)]) (st' := [.int (2 : Int32), .ref a0]) (by decide +kernel) rfl rfl ?_
      refine Go.goto (off := 4) (tgt := 34) (by decide +kernel) (by decide) ?_
      exact x_M_metreOf_34 hf hI k0 k0 e
  · replace e := ite_t c3 e
    refine Go.run (pc' := 14) [.iconst 1] (ls' := [some (.ref a0), some (.int x1), some (.int x2), some (.int x3)]) (st' := [.int (1 : Int32), .ref a0]) (by decide +kernel) rfl rfl ?_
    refine Go.goto (off := 20) (tgt := 34) (by decide +kernel) (by decide) ?_
    exact x_M_metreOf_34 hf hI k0 k0 e
def f_M_dealerOf_33  (a0 : Nat) (x1 : Int32) (x2 : Int32) (b0 : Nat) (s1 : Int32) (h : HP) : Option (Int32 × HP) :=
  (f_M_refused h b0 s1).bind fun v1 =>
  if v1.1 = 0 then
    (f_M_share v1.2 a0 (fld a0 1)).bind fun v4 =>
    if x2 = 5 then
      if ib x1 10 = true then
      some (v4 (fld a0 9) x1.toNatClampNeg, v4)
      else none
    else
      if x2 = 6 then
        (f_M_lacks v4 a0 (fld a0 1) x1).bind fun v9 =>
        some (v9, v4)
      else
        if x2 = 7 then
          (f_M_rent v4 a0 (fld a0 1) x1).bind fun v12 =>
          some (v12, v4)
        else
          if x2 = 8 then
            (f_M_spot v4 x1).bind fun v15 =>
            if ib (v15 + (5 : Int32)) 196 = true then
            some (v4 (fld a0 1) (v15 + (5 : Int32)).toNatClampNeg, v4)
            else none
          else
            if x2 = 9 then
              (f_M_ends v4 (fld a0 1) x1).bind fun v19 =>
              some (v19, v4)
            else
              if x2 = 10 then
                (f_M_neighbours v4 (fld a0 1) x1 (0 : Int32)).bind fun v22 =>
                some (v22, v4)
              else
                if x2 = 11 then
                  (f_M_neighbours v4 (fld a0 1) x1 (1 : Int32)).bind fun v25 =>
                  some (v25, v4)
                else
                  (f_M_spot v4 x1).bind fun v27 =>
                  if ib (v27 + x2) 196 = true then
                  some (v4 (fld a0 1) (v27 + x2).toNatClampNeg, v4)
                  else none
  else
    some ((0 : Int32), v1.2)
set_option maxHeartbeats 1000000 in
theorem x_M_dealerOf_33 {l : Launch} {D : va_G} {ad : Nat → Nat} {aC : Nat → ClassId} (hf : l.flags = flags0) (hI : Inj ad) {a0 : Nat} {x1 : Int32} {x2 : Int32} {b0 : Nat} {s1 : Int32} {h : HP} {r : Int32 × HP} (k0 : knd a0 = 8) (kb0 : knd b0 = 8) (e : f_M_dealerOf_33 a0 x1 x2 b0 s1 h = some r) : Go l D ad aC (rmk m_M_dealerOf) (QM D ad aC m_M_dealerOf (.inl (some (.int r.1))) r.2) m_M_dealerOf 33 [some (.ref a0), some (.int x1), some (.int x2)] [.int s1, .ref b0] h 0 0 := by
  unfold f_M_dealerOf_33 at e
  obtain ⟨v1, e2, e⟩ := bd_inv e
  refine Go.callV (M2 := m_M_refused) (a := b0) (as := [.int s1]) (rest := []) (v := some (.int v1.1)) (h1 := v1.2) (x_M_refused hf hI kb0 e2) wv_M_142 kb0 kc_8 (by decide +kernel) rfl rfl ⟨⟨Nat.le_of_ble_eq_true rfl, Nat.le_of_ble_eq_true rfl⟩, ⟨Nat.le_of_ble_eq_true rfl, Nat.le_of_ble_eq_true rfl⟩⟩ (Nat.le_of_ble_eq_true rfl) ?_
  show Go l D ad aC (rmk m_M_dealerOf) _ m_M_dealerOf 36 [some (.ref a0), some (.int x1), some (.int x2)] [.int v1.1] v1.2 0 0
  refine Go.if_eq (off := 5) (tgt := 41) (by decide +kernel) (by decide) (fun c3 => ?_) (fun c3 => ?_)
  · replace e := ite_t c3 e
    refine Go.run (pc' := 43) [.aload_n 0, .aload_n 0] (ls' := [some (.ref a0), some (.int x1), some (.int x2)]) (st' := [.ref a0, .ref a0]) (by decide +kernel) rfl rfl ?_
    refine Go.getR fo_M_7 k0 (by decide +kernel) ?_
    obtain ⟨v4, e5, e⟩ := bd_inv e
    refine Go.callV (M2 := m_M_share) (a := a0) (as := [.ref (fld a0 1)]) (rest := []) (v := none) (h1 := v4) (x_M_share hf hI k0 (kf_8_j 1 k0 (by decide) (by decide)) (al_8_j 1 k0 (by decide) (by decide) rfl) e5) wv_M_109 k0 kc_8 (by decide +kernel) rfl rfl ⟨⟨Nat.le_of_ble_eq_true rfl, Nat.le_of_ble_eq_true rfl⟩, ⟨Nat.le_of_ble_eq_true rfl, Nat.le_of_ble_eq_true rfl⟩⟩ (Nat.le_of_ble_eq_true rfl) ?_
    show Go l D ad aC (rmk m_M_dealerOf) _ m_M_dealerOf 49 [some (.ref a0), some (.int x1), some (.int x2)] [] v4 0 0
    refine Go.run (pc' := 50) [.iload_n 2] (ls' := [some (.ref a0), some (.int x1), some (.int x2)]) (st' := [.int x2]) (by decide +kernel) rfl rfl ?_
    rcases Decidable.em (x2 = 5) with c6 | c6
    · replace e := ite_t c6 e
      refine Go.tsIn (dflt := 110) (lo := 5) (hi := 11) (offs := #[42, 49, 59, 69, 81, 90, 100]) (len := 42) (off := 42) (tgt := 92) 5 (by decide +kernel) (by rw [c6]; decide) (by decide) (by decide) (by decide) (by decide) ?_
      refine Go.run (pc' := 93) [.aload_n 0] (ls' := [some (.ref a0), some (.int x1), some (.int x2)]) (st' := [.ref a0]) (by decide +kernel) rfl rfl ?_
      refine Go.getR fo_M_32 k0 (by decide +kernel) ?_
      refine Go.run (pc' := 97) [.iload_n 1] (ls' := [some (.ref a0), some (.int x1), some (.int x2)]) (st' := [.int x1, .ref (fld a0 9)]) (by decide +kernel) rfl rfl ?_
      obtain ⟨g7, e⟩ := gd_inv e
      refine Go.iald (kf_8_j 9 k0 (by decide) (by decide)) (al_8_j 9 k0 (by decide) (by decide) rfl) g7 (by decide +kernel) ?_
      obtain rfl := Option.some.inj e
      exact Go.iret rfl (by decide) (by decide) (by decide +kernel)
    replace e := ite_f c6 e
    rcases Decidable.em (x2 = 6) with c8 | c8
    · replace e := ite_t c8 e
      refine Go.tsIn (dflt := 110) (lo := 5) (hi := 11) (offs := #[42, 49, 59, 69, 81, 90, 100]) (len := 42) (off := 49) (tgt := 99) 6 (by decide +kernel) (by rw [c8]; decide) (by decide) (by decide) (by decide) (by decide) ?_
      refine Go.run (pc' := 101) [.aload_n 0, .aload_n 0] (ls' := [some (.ref a0), some (.int x1), some (.int x2)]) (st' := [.ref a0, .ref a0]) (by decide +kernel) rfl rfl ?_
      refine Go.getR fo_M_7 k0 (by decide +kernel) ?_
      refine Go.run (pc' := 105) [.iload_n 1] (ls' := [some (.ref a0), some (.int x1), some (.int x2)]) (st' := [.int x1, .ref (fld a0 1), .ref a0]) (by decide +kernel) rfl rfl ?_
      obtain ⟨v9, e10, e⟩ := bd_inv e
      refine Go.callV (M2 := m_M_lacks) (a := a0) (as := [.ref (fld a0 1), .int x1]) (rest := []) (v := some (.int v9)) (h1 := v4) (x_M_lacks hf hI k0 (kf_8_j 1 k0 (by decide) (by decide)) (al_8_j 1 k0 (by decide) (by decide) rfl) e10) wv_M_106 k0 kc_8 (by decide +kernel) rfl rfl ⟨⟨Nat.le_of_ble_eq_true rfl, Nat.le_of_ble_eq_true rfl⟩, ⟨Nat.le_of_ble_eq_true rfl, Nat.le_of_ble_eq_true rfl⟩⟩ (Nat.le_of_ble_eq_true rfl) ?_
      show Go l D ad aC (rmk m_M_dealerOf) _ m_M_dealerOf 108 [some (.ref a0), some (.int x1), some (.int x2)] [.int v9] v4 0 0
      obtain rfl := Option.some.inj e
      exact Go.iret rfl (by decide) (by decide) (by decide +kernel)
    replace e := ite_f c8 e
    rcases Decidable.em (x2 = 7) with c11 | c11
    · replace e := ite_t c11 e
      refine Go.tsIn (dflt := 110) (lo := 5) (hi := 11) (offs := #[42, 49, 59, 69, 81, 90, 100]) (len := 42) (off := 59) (tgt := 109) 7 (by decide +kernel) (by rw [c11]; decide) (by decide) (by decide) (by decide) (by decide) ?_
      refine Go.run (pc' := 111) [.aload_n 0, .aload_n 0] (ls' := [some (.ref a0), some (.int x1), some (.int x2)]) (st' := [.ref a0, .ref a0]) (by decide +kernel) rfl rfl ?_
      refine Go.getR fo_M_7 k0 (by decide +kernel) ?_
      refine Go.run (pc' := 115) [.iload_n 1] (ls' := [some (.ref a0), some (.int x1), some (.int x2)]) (st' := [.int x1, .ref (fld a0 1), .ref a0]) (by decide +kernel) rfl rfl ?_
      obtain ⟨v12, e13, e⟩ := bd_inv e
      refine Go.callV (M2 := m_M_rent) (a := a0) (as := [.ref (fld a0 1), .int x1]) (rest := []) (v := some (.int v12)) (h1 := v4) (x_M_rent hf hI k0 (kf_8_j 1 k0 (by decide) (by decide)) (al_8_j 1 k0 (by decide) (by decide) rfl) e13) wv_M_112 k0 kc_8 (by decide +kernel) rfl rfl ⟨⟨Nat.le_of_ble_eq_true rfl, Nat.le_of_ble_eq_true rfl⟩, ⟨Nat.le_of_ble_eq_true rfl, Nat.le_of_ble_eq_true rfl⟩⟩ (Nat.le_of_ble_eq_true rfl) ?_
      show Go l D ad aC (rmk m_M_dealerOf) _ m_M_dealerOf 118 [some (.ref a0), some (.int x1), some (.int x2)] [.int v12] v4 0 0
      obtain rfl := Option.some.inj e
      exact Go.iret rfl (by decide) (by decide) (by decide +kernel)
    replace e := ite_f c11 e
    rcases Decidable.em (x2 = 8) with c14 | c14
    · replace e := ite_t c14 e
      refine Go.tsIn (dflt := 110) (lo := 5) (hi := 11) (offs := #[42, 49, 59, 69, 81, 90, 100]) (len := 42) (off := 69) (tgt := 119) 8 (by decide +kernel) (by rw [c14]; decide) (by decide) (by decide) (by decide) (by decide) ?_
      refine Go.run (pc' := 120) [.aload_n 0] (ls' := [some (.ref a0), some (.int x1), some (.int x2)]) (st' := [.ref a0]) (by decide +kernel) rfl rfl ?_
      refine Go.getR fo_M_7 k0 (by decide +kernel) ?_
      refine Go.run (pc' := 124) [.iload_n 1] (ls' := [some (.ref a0), some (.int x1), some (.int x2)]) (st' := [.int x1, .ref (fld a0 1)]) (by decide +kernel) rfl rfl ?_
      obtain ⟨v15, e16, e⟩ := bd_inv e
      refine Go.callS (M2 := m_M_spot) (as := [.int x1]) (rest := [.ref (fld a0 1)]) (v := some (.int v15)) (h1 := v4) (x_M_spot hf hI  e16) ws_M_71 (by decide +kernel) rfl rfl ⟨⟨Nat.le_of_ble_eq_true rfl, Nat.le_of_ble_eq_true rfl⟩, ⟨Nat.le_of_ble_eq_true rfl, Nat.le_of_ble_eq_true rfl⟩⟩ (Nat.le_of_ble_eq_true rfl) ?_
      show Go l D ad aC (rmk m_M_dealerOf) _ m_M_dealerOf 127 [some (.ref a0), some (.int x1), some (.int x2)] [.int v15, .ref (fld a0 1)] v4 0 0
      refine Go.run (pc' := 129) [.iconst 5, .iadd] (ls' := [some (.ref a0), some (.int x1), some (.int x2)]) (st' := [.int (v15 + (5 : Int32)), .ref (fld a0 1)]) (by decide +kernel) rfl rfl ?_
      obtain ⟨g17, e⟩ := gd_inv e
      refine Go.iald (kf_8_j 1 k0 (by decide) (by decide)) (al_8_j 1 k0 (by decide) (by decide) rfl) g17 (by decide +kernel) ?_
      obtain rfl := Option.some.inj e
      exact Go.iret rfl (by decide) (by decide) (by decide +kernel)
    replace e := ite_f c14 e
    rcases Decidable.em (x2 = 9) with c18 | c18
    · replace e := ite_t c18 e
      refine Go.tsIn (dflt := 110) (lo := 5) (hi := 11) (offs := #[42, 49, 59, 69, 81, 90, 100]) (len := 42) (off := 81) (tgt := 131) 9 (by decide +kernel) (by rw [c18]; decide) (by decide) (by decide) (by decide) (by decide) ?_
      refine Go.run (pc' := 132) [.aload_n 0] (ls' := [some (.ref a0), some (.int x1), some (.int x2)]) (st' := [.ref a0]) (by decide +kernel) rfl rfl ?_
      refine Go.getR fo_M_7 k0 (by decide +kernel) ?_
      refine Go.run (pc' := 136) [.iload_n 1] (ls' := [some (.ref a0), some (.int x1), some (.int x2)]) (st' := [.int x1, .ref (fld a0 1)]) (by decide +kernel) rfl rfl ?_
      obtain ⟨v19, e20, e⟩ := bd_inv e
      refine Go.callS (M2 := m_M_ends) (as := [.ref (fld a0 1), .int x1]) (rest := []) (v := some (.int v19)) (h1 := v4) (x_M_ends hf hI (kf_8_j 1 k0 (by decide) (by decide)) (al_8_j 1 k0 (by decide) (by decide) rfl) e20) ws_M_99 (by decide +kernel) rfl rfl ⟨⟨Nat.le_of_ble_eq_true rfl, Nat.le_of_ble_eq_true rfl⟩, ⟨Nat.le_of_ble_eq_true rfl, Nat.le_of_ble_eq_true rfl⟩⟩ (Nat.le_of_ble_eq_true rfl) ?_
      show Go l D ad aC (rmk m_M_dealerOf) _ m_M_dealerOf 139 [some (.ref a0), some (.int x1), some (.int x2)] [.int v19] v4 0 0
      obtain rfl := Option.some.inj e
      exact Go.iret rfl (by decide) (by decide) (by decide +kernel)
    replace e := ite_f c18 e
    rcases Decidable.em (x2 = 10) with c21 | c21
    · replace e := ite_t c21 e
      refine Go.tsIn (dflt := 110) (lo := 5) (hi := 11) (offs := #[42, 49, 59, 69, 81, 90, 100]) (len := 42) (off := 90) (tgt := 140) 10 (by decide +kernel) (by rw [c21]; decide) (by decide) (by decide) (by decide) (by decide) ?_
      refine Go.run (pc' := 141) [.aload_n 0] (ls' := [some (.ref a0), some (.int x1), some (.int x2)]) (st' := [.ref a0]) (by decide +kernel) rfl rfl ?_
      refine Go.getR fo_M_7 k0 (by decide +kernel) ?_
      refine Go.run (pc' := 146) [.iload_n 1, .iconst 0] (ls' := [some (.ref a0), some (.int x1), some (.int x2)]) (st' := [.int (0 : Int32), .int x1, .ref (fld a0 1)]) (by decide +kernel) rfl rfl ?_
      obtain ⟨v22, e23, e⟩ := bd_inv e
      refine Go.callS (M2 := m_M_neighbours) (as := [.ref (fld a0 1), .int x1, .int (0 : Int32)]) (rest := []) (v := some (.int v22)) (h1 := v4) (x_M_neighbours hf hI (kf_8_j 1 k0 (by decide) (by decide)) (al_8_j 1 k0 (by decide) (by decide) rfl) e23) ws_M_102 (by decide +kernel) rfl rfl ⟨⟨Nat.le_of_ble_eq_true rfl, Nat.le_of_ble_eq_true rfl⟩, ⟨Nat.le_of_ble_eq_true rfl, Nat.le_of_ble_eq_true rfl⟩⟩ (Nat.le_of_ble_eq_true rfl) ?_
      show Go l D ad aC (rmk m_M_dealerOf) _ m_M_dealerOf 149 [some (.ref a0), some (.int x1), some (.int x2)] [.int v22] v4 0 0
      obtain rfl := Option.some.inj e
      exact Go.iret rfl (by decide) (by decide) (by decide +kernel)
    replace e := ite_f c21 e
    rcases Decidable.em (x2 = 11) with c24 | c24
    · replace e := ite_t c24 e
      refine Go.tsIn (dflt := 110) (lo := 5) (hi := 11) (offs := #[42, 49, 59, 69, 81, 90, 100]) (len := 42) (off := 100) (tgt := 150) 11 (by decide +kernel) (by rw [c24]; decide) (by decide) (by decide) (by decide) (by decide) ?_
      refine Go.run (pc' := 151) [.aload_n 0] (ls' := [some (.ref a0), some (.int x1), some (.int x2)]) (st' := [.ref a0]) (by decide +kernel) rfl rfl ?_
      refine Go.getR fo_M_7 k0 (by decide +kernel) ?_
      refine Go.run (pc' := 156) [.iload_n 1, .iconst 1] (ls' := [some (.ref a0), some (.int x1), some (.int x2)]) (st' := [.int (1 : Int32), .int x1, .ref (fld a0 1)]) (by decide +kernel) rfl rfl ?_
      obtain ⟨v25, e26, e⟩ := bd_inv e
      refine Go.callS (M2 := m_M_neighbours) (as := [.ref (fld a0 1), .int x1, .int (1 : Int32)]) (rest := []) (v := some (.int v25)) (h1 := v4) (x_M_neighbours hf hI (kf_8_j 1 k0 (by decide) (by decide)) (al_8_j 1 k0 (by decide) (by decide) rfl) e26) ws_M_102 (by decide +kernel) rfl rfl ⟨⟨Nat.le_of_ble_eq_true rfl, Nat.le_of_ble_eq_true rfl⟩, ⟨Nat.le_of_ble_eq_true rfl, Nat.le_of_ble_eq_true rfl⟩⟩ (Nat.le_of_ble_eq_true rfl) ?_
      show Go l D ad aC (rmk m_M_dealerOf) _ m_M_dealerOf 159 [some (.ref a0), some (.int x1), some (.int x2)] [.int v25] v4 0 0
      obtain rfl := Option.some.inj e
      exact Go.iret rfl (by decide) (by decide) (by decide +kernel)
    replace e := ite_f c24 e
    refine Go.tsOut (dflt := 110) (lo := 5) (hi := 11) (offs := #[42, 49, 59, 69, 81, 90, 100]) (len := 42) (tgt := 160) (by decide +kernel) (by have zc6 := lv_neT c6 (a := 5) rfl; have zc8 := lv_neT c8 (a := 6) rfl; have zc11 := lv_neT c11 (a := 7) rfl; have zc14 := lv_neT c14 (a := 8) rfl; have zc18 := lv_neT c18 (a := 9) rfl; have zc21 := lv_neT c21 (a := 10) rfl; have zc24 := lv_neT c24 (a := 11) rfl; omega) (by decide) ?_
    refine Go.run (pc' := 161) [.aload_n 0] (ls' := [some (.ref a0), some (.int x1), some (.int x2)]) (st' := [.ref a0]) (by decide +kernel) rfl rfl ?_
    refine Go.getR fo_M_7 k0 (by decide +kernel) ?_
    refine Go.run (pc' := 165) [.iload_n 1] (ls' := [some (.ref a0), some (.int x1), some (.int x2)]) (st' := [.int x1, .ref (fld a0 1)]) (by decide +kernel) rfl rfl ?_
    obtain ⟨v27, e28, e⟩ := bd_inv e
    refine Go.callS (M2 := m_M_spot) (as := [.int x1]) (rest := [.ref (fld a0 1)]) (v := some (.int v27)) (h1 := v4) (x_M_spot hf hI  e28) ws_M_71 (by decide +kernel) rfl rfl ⟨⟨Nat.le_of_ble_eq_true rfl, Nat.le_of_ble_eq_true rfl⟩, ⟨Nat.le_of_ble_eq_true rfl, Nat.le_of_ble_eq_true rfl⟩⟩ (Nat.le_of_ble_eq_true rfl) ?_
    show Go l D ad aC (rmk m_M_dealerOf) _ m_M_dealerOf 168 [some (.ref a0), some (.int x1), some (.int x2)] [.int v27, .ref (fld a0 1)] v4 0 0
    refine Go.run (pc' := 170) [.iload_n 2, .iadd] (ls' := [some (.ref a0), some (.int x1), some (.int x2)]) (st' := [.int (v27 + x2), .ref (fld a0 1)]) (by decide +kernel) rfl rfl ?_
    obtain ⟨g29, e⟩ := gd_inv e
    refine Go.iald (kf_8_j 1 k0 (by decide) (by decide)) (al_8_j 1 k0 (by decide) (by decide) rfl) g29 (by decide +kernel) ?_
    obtain rfl := Option.some.inj e
    exact Go.iret rfl (by decide) (by decide) (by decide +kernel)
  · replace e := ite_f c3 e
    refine Go.run (pc' := 40) [.iconst 0] (ls' := [some (.ref a0), some (.int x1), some (.int x2)]) (st' := [.int (0 : Int32)]) (by decide +kernel) rfl rfl ?_
    obtain rfl := Option.some.inj e
    exact Go.iret rfl (by decide) (by decide) (by decide +kernel)
def f_M_dealerOf (h : HP) (a0 : Nat) (x1 : Int32) (x2 : Int32) : Option (Int32 × HP) :=
  (f_M_isDealer h (fld a0 1) x1).bind fun v1 =>
  if v1 = 0 then
    f_M_dealerOf_33 a0 x1 x2 a0 (1 : Int32) h
  else
    (f_M_in h x2.toInt64 (0 : Int64) (11 : Int64)).bind fun v4 =>
    if v4 = 0 then
      f_M_dealerOf_33 a0 x1 x2 a0 (2 : Int32) h
    else
      f_M_dealerOf_33 a0 x1 x2 a0 (0 : Int32) h
set_option maxHeartbeats 1000000 in
theorem x_M_dealerOf {l : Launch} {D : va_G} {ad : Nat → Nat} {aC : Nat → ClassId} (hf : l.flags = flags0) (hI : Inj ad) {h : HP} {a0 : Nat} {x1 : Int32} {x2 : Int32} {r : Int32 × HP} (k0 : knd a0 = 8) (e : f_M_dealerOf h a0 x1 x2 = some r) : CT l D ad aC m_M_dealerOf [.ref a0, .int x1, .int x2] h (.inl (some (.int r.1))) r.2 := by
  refine CT.ofGo (by decide +kernel) rfl (Nat.le_of_ble_eq_true rfl) ?_
  unfold f_M_dealerOf at e
  show Go l D ad aC (rmk m_M_dealerOf) _ m_M_dealerOf 0 [some (.ref a0), some (.int x1), some (.int x2)] [] h 0 0
  refine Go.run (pc' := 2) [.aload_n 0, .aload_n 0] (ls' := [some (.ref a0), some (.int x1), some (.int x2)]) (st' := [.ref a0, .ref a0]) (by decide +kernel) rfl rfl ?_
  refine Go.getR fo_M_7 k0 (by decide +kernel) ?_
  refine Go.run (pc' := 6) [.iload_n 1] (ls' := [some (.ref a0), some (.int x1), some (.int x2)]) (st' := [.int x1, .ref (fld a0 1), .ref a0]) (by decide +kernel) rfl rfl ?_
  obtain ⟨v1, e2, e⟩ := bd_inv e
  refine Go.callS (M2 := m_M_isDealer) (as := [.ref (fld a0 1), .int x1]) (rest := [.ref a0]) (v := some (.int v1)) (h1 := h) (x_M_isDealer hf hI (kf_8_j 1 k0 (by decide) (by decide)) (al_8_j 1 k0 (by decide) (by decide) rfl) e2) ws_M_184 (by decide +kernel) rfl rfl ⟨⟨Nat.le_of_ble_eq_true rfl, Nat.le_of_ble_eq_true rfl⟩, ⟨Nat.le_of_ble_eq_true rfl, Nat.le_of_ble_eq_true rfl⟩⟩ (Nat.le_of_ble_eq_true rfl) ?_
  show Go l D ad aC (rmk m_M_dealerOf) _ m_M_dealerOf 9 [some (.ref a0), some (.int x1), some (.int x2)] [.int v1, .ref a0] h 0 0
  refine Go.if_ne (off := 7) (tgt := 16) (by decide +kernel) (by decide) (fun c3 => ?_) (fun c3 => ?_)
  · replace e := ite_f c3 e
    refine Go.run (pc' := 19) [.iload_n 2, .i2l, .lconst 0] (ls' := [some (.ref a0), some (.int x1), some (.int x2)]) (st' := [.long (0 : Int64), .long x2.toInt64, .ref a0]) (by decide +kernel) rfl rfl ?_
    refine Go.ldc2 lo_M_260 (by decide +kernel) ?_
    obtain ⟨v4, e5, e⟩ := bd_inv e
    refine Go.callS (M2 := m_M_in) (as := [.long x2.toInt64, .long (0 : Int64), .long (11 : Int64)]) (rest := [.ref a0]) (v := some (.int v4)) (h1 := h) (x_M_in hf hI  e5) ws_M_51 (by decide +kernel) rfl rfl ⟨⟨Nat.le_of_ble_eq_true rfl, Nat.le_of_ble_eq_true rfl⟩, ⟨Nat.le_of_ble_eq_true rfl, Nat.le_of_ble_eq_true rfl⟩⟩ (Nat.le_of_ble_eq_true rfl) ?_
    show Go l D ad aC (rmk m_M_dealerOf) _ m_M_dealerOf 25 [some (.ref a0), some (.int x1), some (.int x2)] [.int v4, .ref a0] h 0 0
    refine Go.if_ne (off := 7) (tgt := 32) (by decide +kernel) (by decide) (fun c6 => ?_) (fun c6 => ?_)
    · replace e := ite_f c6 e
      refine Go.run (pc' := 33) [.iconst 0] (ls' := [some (.ref a0), some (.int x1), some (.int x2)]) (st' := [.int (0 : Int32), .ref a0]) (by decide +kernel) rfl rfl ?_
      exact x_M_dealerOf_33 hf hI k0 k0 e
    · replace e := ite_t c6 e
      refine Go.run (pc' := 29) [.iconst 2] (ls' := [some (.ref a0), some (.int x1), some (.int x2)]) (st' := [.int (2 : Int32), .ref a0]) (by decide +kernel) rfl rfl ?_
      refine Go.goto (off := 4) (tgt := 33) (by decide +kernel) (by decide) ?_
      exact x_M_dealerOf_33 hf hI k0 k0 e
  · replace e := ite_t c3 e
    refine Go.run (pc' := 13) [.iconst 1] (ls' := [some (.ref a0), some (.int x1), some (.int x2)]) (st' := [.int (1 : Int32), .ref a0]) (by decide +kernel) rfl rfl ?_
    refine Go.goto (off := 20) (tgt := 33) (by decide +kernel) (by decide) ?_
    exact x_M_dealerOf_33 hf hI k0 k0 e
def f_M_plugOf_33  (a0 : Nat) (x1 : Int32) (x2 : Int32) (b0 : Nat) (s1 : Int32) (h : HP) : Option (Int32 × HP) :=
  (f_M_refused h b0 s1).bind fun v1 =>
  if v1.1 = 0 then
    (f_M_share v1.2 a0 (fld a0 1)).bind fun v4 =>
    if ib (((3 : Int32) * x1) + x2) 30 = true then
    some (v4 (fld a0 10) (((3 : Int32) * x1) + x2).toNatClampNeg, v4)
    else none
  else
    some ((0 : Int32), v1.2)
set_option maxHeartbeats 1000000 in
theorem x_M_plugOf_33 {l : Launch} {D : va_G} {ad : Nat → Nat} {aC : Nat → ClassId} (hf : l.flags = flags0) (hI : Inj ad) {a0 : Nat} {x1 : Int32} {x2 : Int32} {b0 : Nat} {s1 : Int32} {h : HP} {r : Int32 × HP} (k0 : knd a0 = 8) (kb0 : knd b0 = 8) (e : f_M_plugOf_33 a0 x1 x2 b0 s1 h = some r) : Go l D ad aC (rmk m_M_plugOf) (QM D ad aC m_M_plugOf (.inl (some (.int r.1))) r.2) m_M_plugOf 33 [some (.ref a0), some (.int x1), some (.int x2)] [.int s1, .ref b0] h 0 0 := by
  unfold f_M_plugOf_33 at e
  obtain ⟨v1, e2, e⟩ := bd_inv e
  refine Go.callV (M2 := m_M_refused) (a := b0) (as := [.int s1]) (rest := []) (v := some (.int v1.1)) (h1 := v1.2) (x_M_refused hf hI kb0 e2) wv_M_142 kb0 kc_8 (by decide +kernel) rfl rfl ⟨⟨Nat.le_of_ble_eq_true rfl, Nat.le_of_ble_eq_true rfl⟩, ⟨Nat.le_of_ble_eq_true rfl, Nat.le_of_ble_eq_true rfl⟩⟩ (Nat.le_of_ble_eq_true rfl) ?_
  show Go l D ad aC (rmk m_M_plugOf) _ m_M_plugOf 36 [some (.ref a0), some (.int x1), some (.int x2)] [.int v1.1] v1.2 0 0
  refine Go.if_eq (off := 5) (tgt := 41) (by decide +kernel) (by decide) (fun c3 => ?_) (fun c3 => ?_)
  · replace e := ite_t c3 e
    refine Go.run (pc' := 43) [.aload_n 0, .aload_n 0] (ls' := [some (.ref a0), some (.int x1), some (.int x2)]) (st' := [.ref a0, .ref a0]) (by decide +kernel) rfl rfl ?_
    refine Go.getR fo_M_7 k0 (by decide +kernel) ?_
    obtain ⟨v4, e5, e⟩ := bd_inv e
    refine Go.callV (M2 := m_M_share) (a := a0) (as := [.ref (fld a0 1)]) (rest := []) (v := none) (h1 := v4) (x_M_share hf hI k0 (kf_8_j 1 k0 (by decide) (by decide)) (al_8_j 1 k0 (by decide) (by decide) rfl) e5) wv_M_109 k0 kc_8 (by decide +kernel) rfl rfl ⟨⟨Nat.le_of_ble_eq_true rfl, Nat.le_of_ble_eq_true rfl⟩, ⟨Nat.le_of_ble_eq_true rfl, Nat.le_of_ble_eq_true rfl⟩⟩ (Nat.le_of_ble_eq_true rfl) ?_
    show Go l D ad aC (rmk m_M_plugOf) _ m_M_plugOf 49 [some (.ref a0), some (.int x1), some (.int x2)] [] v4 0 0
    refine Go.run (pc' := 50) [.aload_n 0] (ls' := [some (.ref a0), some (.int x1), some (.int x2)]) (st' := [.ref a0]) (by decide +kernel) rfl rfl ?_
    refine Go.getR fo_M_35 k0 (by decide +kernel) ?_
    refine Go.run (pc' := 58) [.iconst 3, .iload_n 1, .imul, .iload_n 2, .iadd] (ls' := [some (.ref a0), some (.int x1), some (.int x2)]) (st' := [.int (((3 : Int32) * x1) + x2), .ref (fld a0 10)]) (by decide +kernel) rfl rfl ?_
    obtain ⟨g6, e⟩ := gd_inv e
    refine Go.iald (kf_8_j 10 k0 (by decide) (by decide)) (al_8_j 10 k0 (by decide) (by decide) rfl) g6 (by decide +kernel) ?_
    obtain rfl := Option.some.inj e
    exact Go.iret rfl (by decide) (by decide) (by decide +kernel)
  · replace e := ite_f c3 e
    refine Go.run (pc' := 40) [.iconst 0] (ls' := [some (.ref a0), some (.int x1), some (.int x2)]) (st' := [.int (0 : Int32)]) (by decide +kernel) rfl rfl ?_
    obtain rfl := Option.some.inj e
    exact Go.iret rfl (by decide) (by decide) (by decide +kernel)
def f_M_plugOf (h : HP) (a0 : Nat) (x1 : Int32) (x2 : Int32) : Option (Int32 × HP) :=
  (f_M_isDealer h (fld a0 1) x1).bind fun v1 =>
  if v1 = 0 then
    f_M_plugOf_33 a0 x1 x2 a0 (1 : Int32) h
  else
    (f_M_in h x2.toInt64 (0 : Int64) (2 : Int64)).bind fun v4 =>
    if v4 = 0 then
      f_M_plugOf_33 a0 x1 x2 a0 (2 : Int32) h
    else
      f_M_plugOf_33 a0 x1 x2 a0 (0 : Int32) h
set_option maxHeartbeats 1000000 in
theorem x_M_plugOf {l : Launch} {D : va_G} {ad : Nat → Nat} {aC : Nat → ClassId} (hf : l.flags = flags0) (hI : Inj ad) {h : HP} {a0 : Nat} {x1 : Int32} {x2 : Int32} {r : Int32 × HP} (k0 : knd a0 = 8) (e : f_M_plugOf h a0 x1 x2 = some r) : CT l D ad aC m_M_plugOf [.ref a0, .int x1, .int x2] h (.inl (some (.int r.1))) r.2 := by
  refine CT.ofGo (by decide +kernel) rfl (Nat.le_of_ble_eq_true rfl) ?_
  unfold f_M_plugOf at e
  show Go l D ad aC (rmk m_M_plugOf) _ m_M_plugOf 0 [some (.ref a0), some (.int x1), some (.int x2)] [] h 0 0
  refine Go.run (pc' := 2) [.aload_n 0, .aload_n 0] (ls' := [some (.ref a0), some (.int x1), some (.int x2)]) (st' := [.ref a0, .ref a0]) (by decide +kernel) rfl rfl ?_
  refine Go.getR fo_M_7 k0 (by decide +kernel) ?_
  refine Go.run (pc' := 6) [.iload_n 1] (ls' := [some (.ref a0), some (.int x1), some (.int x2)]) (st' := [.int x1, .ref (fld a0 1), .ref a0]) (by decide +kernel) rfl rfl ?_
  obtain ⟨v1, e2, e⟩ := bd_inv e
  refine Go.callS (M2 := m_M_isDealer) (as := [.ref (fld a0 1), .int x1]) (rest := [.ref a0]) (v := some (.int v1)) (h1 := h) (x_M_isDealer hf hI (kf_8_j 1 k0 (by decide) (by decide)) (al_8_j 1 k0 (by decide) (by decide) rfl) e2) ws_M_184 (by decide +kernel) rfl rfl ⟨⟨Nat.le_of_ble_eq_true rfl, Nat.le_of_ble_eq_true rfl⟩, ⟨Nat.le_of_ble_eq_true rfl, Nat.le_of_ble_eq_true rfl⟩⟩ (Nat.le_of_ble_eq_true rfl) ?_
  show Go l D ad aC (rmk m_M_plugOf) _ m_M_plugOf 9 [some (.ref a0), some (.int x1), some (.int x2)] [.int v1, .ref a0] h 0 0
  refine Go.if_ne (off := 7) (tgt := 16) (by decide +kernel) (by decide) (fun c3 => ?_) (fun c3 => ?_)
  · replace e := ite_f c3 e
    refine Go.run (pc' := 19) [.iload_n 2, .i2l, .lconst 0] (ls' := [some (.ref a0), some (.int x1), some (.int x2)]) (st' := [.long (0 : Int64), .long x2.toInt64, .ref a0]) (by decide +kernel) rfl rfl ?_
    refine Go.ldc2 lo_M_258 (by decide +kernel) ?_
    obtain ⟨v4, e5, e⟩ := bd_inv e
    refine Go.callS (M2 := m_M_in) (as := [.long x2.toInt64, .long (0 : Int64), .long (2 : Int64)]) (rest := [.ref a0]) (v := some (.int v4)) (h1 := h) (x_M_in hf hI  e5) ws_M_51 (by decide +kernel) rfl rfl ⟨⟨Nat.le_of_ble_eq_true rfl, Nat.le_of_ble_eq_true rfl⟩, ⟨Nat.le_of_ble_eq_true rfl, Nat.le_of_ble_eq_true rfl⟩⟩ (Nat.le_of_ble_eq_true rfl) ?_
    show Go l D ad aC (rmk m_M_plugOf) _ m_M_plugOf 25 [some (.ref a0), some (.int x1), some (.int x2)] [.int v4, .ref a0] h 0 0
    refine Go.if_ne (off := 7) (tgt := 32) (by decide +kernel) (by decide) (fun c6 => ?_) (fun c6 => ?_)
    · replace e := ite_f c6 e
      refine Go.run (pc' := 33) [.iconst 0] (ls' := [some (.ref a0), some (.int x1), some (.int x2)]) (st' := [.int (0 : Int32), .ref a0]) (by decide +kernel) rfl rfl ?_
      exact x_M_plugOf_33 hf hI k0 k0 e
    · replace e := ite_t c6 e
      refine Go.run (pc' := 29) [.iconst 2] (ls' := [some (.ref a0), some (.int x1), some (.int x2)]) (st' := [.int (2 : Int32), .ref a0]) (by decide +kernel) rfl rfl ?_
      refine Go.goto (off := 4) (tgt := 33) (by decide +kernel) (by decide) ?_
      exact x_M_plugOf_33 hf hI k0 k0 e
  · replace e := ite_t c3 e
    refine Go.run (pc' := 13) [.iconst 1] (ls' := [some (.ref a0), some (.int x1), some (.int x2)]) (st' := [.int (1 : Int32), .ref a0]) (by decide +kernel) rfl rfl ?_
    refine Go.goto (off := 20) (tgt := 33) (by decide +kernel) (by decide) ?_
    exact x_M_plugOf_33 hf hI k0 k0 e
def f_M_setting_18  (a0 : Nat) (x1 : Int32) (b0 : Nat) (s1 : Int32) (h : HP) : Option (Int32 × HP) :=
  (f_M_refused h b0 s1).bind fun v1 =>
  if v1.1 = 0 then
    if ib ((190 : Int32) + x1) 196 = true then
    some (v1.2 (fld a0 1) ((190 : Int32) + x1).toNatClampNeg, v1.2)
    else none
  else
    some ((0 : Int32), v1.2)
set_option maxHeartbeats 1000000 in
theorem x_M_setting_18 {l : Launch} {D : va_G} {ad : Nat → Nat} {aC : Nat → ClassId} (hf : l.flags = flags0) (hI : Inj ad) {a0 : Nat} {x1 : Int32} {b0 : Nat} {s1 : Int32} {h : HP} {r : Int32 × HP} (k0 : knd a0 = 8) (kb0 : knd b0 = 8) (e : f_M_setting_18 a0 x1 b0 s1 h = some r) : Go l D ad aC (rmk m_M_setting) (QM D ad aC m_M_setting (.inl (some (.int r.1))) r.2) m_M_setting 18 [some (.ref a0), some (.int x1)] [.int s1, .ref b0] h 0 0 := by
  unfold f_M_setting_18 at e
  obtain ⟨v1, e2, e⟩ := bd_inv e
  refine Go.callV (M2 := m_M_refused) (a := b0) (as := [.int s1]) (rest := []) (v := some (.int v1.1)) (h1 := v1.2) (x_M_refused hf hI kb0 e2) wv_M_142 kb0 kc_8 (by decide +kernel) rfl rfl ⟨⟨Nat.le_of_ble_eq_true rfl, Nat.le_of_ble_eq_true rfl⟩, ⟨Nat.le_of_ble_eq_true rfl, Nat.le_of_ble_eq_true rfl⟩⟩ (Nat.le_of_ble_eq_true rfl) ?_
  show Go l D ad aC (rmk m_M_setting) _ m_M_setting 21 [some (.ref a0), some (.int x1)] [.int v1.1] v1.2 0 0
  refine Go.if_eq (off := 5) (tgt := 26) (by decide +kernel) (by decide) (fun c3 => ?_) (fun c3 => ?_)
  · replace e := ite_t c3 e
    refine Go.run (pc' := 27) [.aload_n 0] (ls' := [some (.ref a0), some (.int x1)]) (st' := [.ref a0]) (by decide +kernel) rfl rfl ?_
    refine Go.getR fo_M_7 k0 (by decide +kernel) ?_
    refine Go.run (pc' := 35) [.sipush (190), .iload_n 1, .iadd] (ls' := [some (.ref a0), some (.int x1)]) (st' := [.int ((190 : Int32) + x1), .ref (fld a0 1)]) (by decide +kernel) rfl rfl ?_
    obtain ⟨g4, e⟩ := gd_inv e
    refine Go.iald (kf_8_j 1 k0 (by decide) (by decide)) (al_8_j 1 k0 (by decide) (by decide) rfl) g4 (by decide +kernel) ?_
    obtain rfl := Option.some.inj e
    exact Go.iret rfl (by decide) (by decide) (by decide +kernel)
  · replace e := ite_f c3 e
    refine Go.run (pc' := 25) [.iconst 0] (ls' := [some (.ref a0), some (.int x1)]) (st' := [.int (0 : Int32)]) (by decide +kernel) rfl rfl ?_
    obtain rfl := Option.some.inj e
    exact Go.iret rfl (by decide) (by decide) (by decide +kernel)
def f_M_setting (h : HP) (a0 : Nat) (x1 : Int32) : Option (Int32 × HP) :=
  (f_M_in h x1.toInt64 (0 : Int64) (5 : Int64)).bind fun v1 =>
  if v1 = 0 then
    f_M_setting_18 a0 x1 a0 (1 : Int32) h
  else
    f_M_setting_18 a0 x1 a0 (0 : Int32) h
set_option maxHeartbeats 1000000 in
theorem x_M_setting {l : Launch} {D : va_G} {ad : Nat → Nat} {aC : Nat → ClassId} (hf : l.flags = flags0) (hI : Inj ad) {h : HP} {a0 : Nat} {x1 : Int32} {r : Int32 × HP} (k0 : knd a0 = 8) (e : f_M_setting h a0 x1 = some r) : CT l D ad aC m_M_setting [.ref a0, .int x1] h (.inl (some (.int r.1))) r.2 := by
  refine CT.ofGo (by decide +kernel) rfl (Nat.le_of_ble_eq_true rfl) ?_
  unfold f_M_setting at e
  show Go l D ad aC (rmk m_M_setting) _ m_M_setting 0 [some (.ref a0), some (.int x1)] [] h 0 0
  refine Go.run (pc' := 4) [.aload_n 0, .iload_n 1, .i2l, .lconst 0] (ls' := [some (.ref a0), some (.int x1)]) (st' := [.long (0 : Int64), .long x1.toInt64, .ref a0]) (by decide +kernel) rfl rfl ?_
  refine Go.ldc2 lo_M_63 (by decide +kernel) ?_
  obtain ⟨v1, e2, e⟩ := bd_inv e
  refine Go.callS (M2 := m_M_in) (as := [.long x1.toInt64, .long (0 : Int64), .long (5 : Int64)]) (rest := [.ref a0]) (v := some (.int v1)) (h1 := h) (x_M_in hf hI  e2) ws_M_51 (by decide +kernel) rfl rfl ⟨⟨Nat.le_of_ble_eq_true rfl, Nat.le_of_ble_eq_true rfl⟩, ⟨Nat.le_of_ble_eq_true rfl, Nat.le_of_ble_eq_true rfl⟩⟩ (Nat.le_of_ble_eq_true rfl) ?_
  show Go l D ad aC (rmk m_M_setting) _ m_M_setting 10 [some (.ref a0), some (.int x1)] [.int v1, .ref a0] h 0 0
  refine Go.if_eq (off := 7) (tgt := 17) (by decide +kernel) (by decide) (fun c3 => ?_) (fun c3 => ?_)
  · replace e := ite_t c3 e
    refine Go.run (pc' := 18) [.iconst 1] (ls' := [some (.ref a0), some (.int x1)]) (st' := [.int (1 : Int32), .ref a0]) (by decide +kernel) rfl rfl ?_
    exact x_M_setting_18 hf hI k0 k0 e
  · replace e := ite_f c3 e
    refine Go.run (pc' := 14) [.iconst 0] (ls' := [some (.ref a0), some (.int x1)]) (st' := [.int (0 : Int32), .ref a0]) (by decide +kernel) rfl rfl ?_
    refine Go.goto (off := 4) (tgt := 18) (by decide +kernel) (by decide) ?_
    exact x_M_setting_18 hf hI k0 k0 e
def f_M_lessFronts_42 (h : HP) (k8_ : Nat → Int32 → Int32 → Int32 → Option (Int32)) (a0 : Nat) (x1 : Int32) (x3 : Int32) (s0 : Int32) (s1 : Int32) : Option (Int32) :=
  k8_ a0 x1 (s0 - s1) (x3 + (1 : Int32))
set_option maxHeartbeats 1000000 in
theorem x_M_lessFronts_42 {l : Launch} {D : va_G} {ad : Nat → Nat} {aC : Nat → ClassId} (hf : l.flags = flags0) (hI : Inj ad) {h : HP} {k8_ : Nat → Int32 → Int32 → Int32 → Option (Int32)} (K8_ : ∀ {a0 : Nat} {x1 : Int32} {x2 : Int32} {x3 : Int32} {r : Int32}, knd a0 = 10 → alen a0 = 196 → k8_ a0 x1 x2 x3 = some r → Go l D ad aC (rmk m_M_lessFronts) (QM D ad aC m_M_lessFronts (.inl (some (.int r))) h) m_M_lessFronts 8 [some (.ref a0), some (.int x1), some (.int x2), some (.int x3)] [] h 0 0) {a0 : Nat} {x1 : Int32} {x3 : Int32} {s0 : Int32} {s1 : Int32} {r : Int32} (k0 : knd a0 = 10) (q0 : alen a0 = 196) (e : f_M_lessFronts_42 h k8_ a0 x1 x3 s0 s1 = some r) : Go l D ad aC (rmk m_M_lessFronts) (QM D ad aC m_M_lessFronts (.inl (some (.int r))) h) m_M_lessFronts 42 [some (.ref a0), some (.int x1), none, some (.int x3)] [.int s1, .int s0] h 0 0 := by
  unfold f_M_lessFronts_42 at e
  refine Go.run (pc' := 47) [.isub, .istore_n 2, .iinc 3 (1)] (ls' := [some (.ref a0), some (.int x1), some (.int (s0 - s1)), some (.int (x3 + (1 : Int32)))]) (st' := []) (by decide +kernel) rfl rfl ?_
  refine Go.goto (off := -39) (tgt := 8) (by decide +kernel) (by decide) ?_
  exact K8_ k0 q0 e
def f_M_lessFronts_8 (h : HP)  : Nat → Nat → Int32 → Int32 → Int32 → Option (Int32)
  | 0, _, _, _, _ => none
  | n + 1, a0, x1, x2, x3 =>
    if ib (185 : Int32) 196 = true then
    if (h a0 (185 : Int32).toNatClampNeg) ≤ x3 then
      some x2
    else
      (f_M_spot h x3).bind fun v3 =>
      if ib (v3 + (3 : Int32)) 196 = true then
      if (h a0 (v3 + (3 : Int32)).toNatClampNeg) = x1 then
        (f_M_spot h x3).bind fun v7 =>
        if ib (v7 + (1 : Int32)) 196 = true then
        f_M_lessFronts_42 h (f_M_lessFronts_8 h n) a0 x1 x3 x2 (h a0 (v7 + (1 : Int32)).toNatClampNeg)
        else none
      else
        f_M_lessFronts_42 h (f_M_lessFronts_8 h n) a0 x1 x3 x2 (0 : Int32)
      else none
    else none
set_option maxHeartbeats 1000000 in
theorem x_M_lessFronts_8 {l : Launch} {D : va_G} {ad : Nat → Nat} {aC : Nat → ClassId} (hf : l.flags = flags0) (hI : Inj ad) {h : HP} : ∀ (n : Nat) {a0 : Nat} {x1 : Int32} {x2 : Int32} {x3 : Int32} {r : Int32}, knd a0 = 10 → alen a0 = 196 → f_M_lessFronts_8 h n a0 x1 x2 x3 = some r → Go l D ad aC (rmk m_M_lessFronts) (QM D ad aC m_M_lessFronts (.inl (some (.int r))) h) m_M_lessFronts 8 [some (.ref a0), some (.int x1), some (.int x2), some (.int x3)] [] h 0 0 := by
  intro n
  induction n with
  | zero => intro a0 x1 x2 x3 r k0 q0 e; exact no_none e
  | succ n ih =>
    intro a0 x1 x2 x3 r k0 q0 e
    rw [f_M_lessFronts_8] at e
    refine Go.run (pc' := 13) [.iload_n 3, .aload_n 0, .sipush (185)] (ls' := [some (.ref a0), some (.int x1), some (.int x2), some (.int x3)]) (st' := [.int (185 : Int32), .ref a0, .int x3]) (by decide +kernel) rfl rfl ?_
    obtain ⟨g1, e⟩ := gd_inv e
    refine Go.iald k0 q0 g1 (by decide +kernel) ?_
    refine Go.ic_ge (off := 36) (tgt := 50) (by decide +kernel) (by decide) (fun c2 => ?_) (fun c2 => ?_)
    · replace e := ite_t c2 e
      refine Go.run (pc' := 51) [.iload_n 2] (ls' := [some (.ref a0), some (.int x1), some (.int x2), some (.int x3)]) (st' := [.int x2]) (by decide +kernel) rfl rfl ?_
      obtain rfl := Option.some.inj e
      exact Go.iret rfl (by decide) (by decide) (by decide +kernel)
    · replace e := ite_f c2 e
      refine Go.run (pc' := 20) [.iload_n 2, .aload_n 0, .iload_n 3] (ls' := [some (.ref a0), some (.int x1), some (.int x2), some (.int x3)]) (st' := [.int x3, .ref a0, .int x2]) (by decide +kernel) rfl rfl ?_
      obtain ⟨v3, e4, e⟩ := bd_inv e
      refine Go.callS (M2 := m_M_spot) (as := [.int x3]) (rest := [.ref a0, .int x2]) (v := some (.int v3)) (h1 := h) (x_M_spot hf hI  e4) ws_M_71 (by decide +kernel) rfl rfl ⟨⟨Nat.le_of_ble_eq_true rfl, Nat.le_of_ble_eq_true rfl⟩, ⟨Nat.le_of_ble_eq_true rfl, Nat.le_of_ble_eq_true rfl⟩⟩ (Nat.le_of_ble_eq_true rfl) ?_
      show Go l D ad aC (rmk m_M_lessFronts) _ m_M_lessFronts 23 [some (.ref a0), some (.int x1), some (.int x2), some (.int x3)] [.int v3, .ref a0, .int x2] h 0 0
      refine Go.run (pc' := 25) [.iconst 3, .iadd] (ls' := [some (.ref a0), some (.int x1), some (.int x2), some (.int x3)]) (st' := [.int (v3 + (3 : Int32)), .ref a0, .int x2]) (by decide +kernel) rfl rfl ?_
      obtain ⟨g5, e⟩ := gd_inv e
      refine Go.iald k0 q0 g5 (by decide +kernel) ?_
      refine Go.run (pc' := 27) [.iload_n 1] (ls' := [some (.ref a0), some (.int x1), some (.int x2), some (.int x3)]) (st' := [.int x1, .int (h a0 (v3 + (3 : Int32)).toNatClampNeg), .int x2]) (by decide +kernel) rfl rfl ?_
      refine Go.ic_ne (off := 14) (tgt := 41) (by decide +kernel) (by decide) (fun c6 => ?_) (fun c6 => ?_)
      · replace e := ite_f c6 e
        refine Go.run (pc' := 42) [.iconst 0] (ls' := [some (.ref a0), some (.int x1), some (.int x2), some (.int x3)]) (st' := [.int (0 : Int32), .int x2]) (by decide +kernel) rfl rfl ?_
        refine Go.wk' (wks (wks (wkn (wks wk0)))) ?_
        exact x_M_lessFronts_42 hf hI (fun kk0 qq0 e => ih kk0 qq0 e) k0 q0 e
      · replace e := ite_t c6 e
        refine Go.run (pc' := 32) [.aload_n 0, .iload_n 3] (ls' := [some (.ref a0), some (.int x1), some (.int x2), some (.int x3)]) (st' := [.int x3, .ref a0, .int x2]) (by decide +kernel) rfl rfl ?_
        obtain ⟨v7, e8, e⟩ := bd_inv e
        refine Go.callS (M2 := m_M_spot) (as := [.int x3]) (rest := [.ref a0, .int x2]) (v := some (.int v7)) (h1 := h) (x_M_spot hf hI  e8) ws_M_71 (by decide +kernel) rfl rfl ⟨⟨Nat.le_of_ble_eq_true rfl, Nat.le_of_ble_eq_true rfl⟩, ⟨Nat.le_of_ble_eq_true rfl, Nat.le_of_ble_eq_true rfl⟩⟩ (Nat.le_of_ble_eq_true rfl) ?_
        show Go l D ad aC (rmk m_M_lessFronts) _ m_M_lessFronts 35 [some (.ref a0), some (.int x1), some (.int x2), some (.int x3)] [.int v7, .ref a0, .int x2] h 0 0
        refine Go.run (pc' := 37) [.iconst 1, .iadd] (ls' := [some (.ref a0), some (.int x1), some (.int x2), some (.int x3)]) (st' := [.int (v7 + (1 : Int32)), .ref a0, .int x2]) (by decide +kernel) rfl rfl ?_
        obtain ⟨g9, e⟩ := gd_inv e
        refine Go.iald k0 q0 g9 (by decide +kernel) ?_
        refine Go.goto (off := 4) (tgt := 42) (by decide +kernel) (by decide) ?_
        refine Go.wk' (wks (wks (wkn (wks wk0)))) ?_
        exact x_M_lessFronts_42 hf hI (fun kk0 qq0 e => ih kk0 qq0 e) k0 q0 e
def f_M_lessFronts (h : HP) (a0 : Nat) (x1 : Int32) : Option (Int32) :=
  (f_M_size h a0 x1).bind fun v1 =>
  f_M_lessFronts_8 h 4096 a0 x1 v1 (0 : Int32)
set_option maxHeartbeats 1000000 in
theorem x_M_lessFronts {l : Launch} {D : va_G} {ad : Nat → Nat} {aC : Nat → ClassId} (hf : l.flags = flags0) (hI : Inj ad) {h : HP} {a0 : Nat} {x1 : Int32} {r : Int32} (k0 : knd a0 = 10) (q0 : alen a0 = 196) (e : f_M_lessFronts h a0 x1 = some r) : CT l D ad aC m_M_lessFronts [.ref a0, .int x1] h (.inl (some (.int r))) h := by
  refine CT.ofGo (by decide +kernel) rfl (Nat.le_of_ble_eq_true rfl) ?_
  unfold f_M_lessFronts at e
  show Go l D ad aC (rmk m_M_lessFronts) _ m_M_lessFronts 0 [some (.ref a0), some (.int x1), none, none] [] h 0 0
  refine Go.run (pc' := 2) [.aload_n 0, .iload_n 1] (ls' := [some (.ref a0), some (.int x1), none, none]) (st' := [.int x1, .ref a0]) (by decide +kernel) rfl rfl ?_
  obtain ⟨v1, e2, e⟩ := bd_inv e
  refine Go.callS (M2 := m_M_size) (as := [.ref a0, .int x1]) (rest := []) (v := some (.int v1)) (h1 := h) (x_M_size hf hI k0 q0 e2) ws_M_75 (by decide +kernel) rfl rfl ⟨⟨Nat.le_of_ble_eq_true rfl, Nat.le_of_ble_eq_true rfl⟩, ⟨Nat.le_of_ble_eq_true rfl, Nat.le_of_ble_eq_true rfl⟩⟩ (Nat.le_of_ble_eq_true rfl) ?_
  show Go l D ad aC (rmk m_M_lessFronts) _ m_M_lessFronts 5 [some (.ref a0), some (.int x1), none, none] [.int v1] h 0 0
  refine Go.run (pc' := 8) [.istore_n 2, .iconst 0, .istore_n 3] (ls' := [some (.ref a0), some (.int x1), some (.int v1), some (.int (0 : Int32))]) (st' := []) (by decide +kernel) rfl rfl ?_
  exact x_M_lessFronts_8 hf hI 4096 k0 q0 e
def f_M_free_31  (a0 : Nat) (x1 : Int32) (x2 : Int32) (b0 : Nat) (s1 : Int32) (h : HP) : Option (Int32 × HP) :=
  (f_M_refused h b0 s1).bind fun v1 =>
  if v1.1 = 0 then
    if x2 = 0 then
      (f_M_freeAt v1.2 (fld a0 1) x1).bind fun v7 =>
      some (v7, v1.2)
    else
      (f_M_lessFronts v1.2 (fld a0 1) x1).bind fun v5 =>
      some (v5, v1.2)
  else
    some ((0 : Int32), v1.2)
set_option maxHeartbeats 1000000 in
theorem x_M_free_31 {l : Launch} {D : va_G} {ad : Nat → Nat} {aC : Nat → ClassId} (hf : l.flags = flags0) (hI : Inj ad) {a0 : Nat} {x1 : Int32} {x2 : Int32} {b0 : Nat} {s1 : Int32} {h : HP} {r : Int32 × HP} (k0 : knd a0 = 8) (kb0 : knd b0 = 8) (e : f_M_free_31 a0 x1 x2 b0 s1 h = some r) : Go l D ad aC (rmk m_M_free) (QM D ad aC m_M_free (.inl (some (.int r.1))) r.2) m_M_free 31 [some (.ref a0), some (.int x1), some (.int x2)] [.int s1, .ref b0] h 0 0 := by
  unfold f_M_free_31 at e
  obtain ⟨v1, e2, e⟩ := bd_inv e
  refine Go.callV (M2 := m_M_refused) (a := b0) (as := [.int s1]) (rest := []) (v := some (.int v1.1)) (h1 := v1.2) (x_M_refused hf hI kb0 e2) wv_M_142 kb0 kc_8 (by decide +kernel) rfl rfl ⟨⟨Nat.le_of_ble_eq_true rfl, Nat.le_of_ble_eq_true rfl⟩, ⟨Nat.le_of_ble_eq_true rfl, Nat.le_of_ble_eq_true rfl⟩⟩ (Nat.le_of_ble_eq_true rfl) ?_
  show Go l D ad aC (rmk m_M_free) _ m_M_free 34 [some (.ref a0), some (.int x1), some (.int x2)] [.int v1.1] v1.2 0 0
  refine Go.if_eq (off := 5) (tgt := 39) (by decide +kernel) (by decide) (fun c3 => ?_) (fun c3 => ?_)
  · replace e := ite_t c3 e
    refine Go.run (pc' := 40) [.iload_n 2] (ls' := [some (.ref a0), some (.int x1), some (.int x2)]) (st' := [.int x2]) (by decide +kernel) rfl rfl ?_
    refine Go.if_ne (off := 14) (tgt := 54) (by decide +kernel) (by decide) (fun c4 => ?_) (fun c4 => ?_)
    · replace e := ite_f c4 e
      refine Go.run (pc' := 55) [.aload_n 0] (ls' := [some (.ref a0), some (.int x1), some (.int x2)]) (st' := [.ref a0]) (by decide +kernel) rfl rfl ?_
      refine Go.getR fo_M_7 k0 (by decide +kernel) ?_
      refine Go.run (pc' := 59) [.iload_n 1] (ls' := [some (.ref a0), some (.int x1), some (.int x2)]) (st' := [.int x1, .ref (fld a0 1)]) (by decide +kernel) rfl rfl ?_
      obtain ⟨v5, e6, e⟩ := bd_inv e
      refine Go.callS (M2 := m_M_lessFronts) (as := [.ref (fld a0 1), .int x1]) (rest := []) (v := some (.int v5)) (h1 := v1.2) (x_M_lessFronts hf hI (kf_8_j 1 k0 (by decide) (by decide)) (al_8_j 1 k0 (by decide) (by decide) rfl) e6) ws_M_262 (by decide +kernel) rfl rfl ⟨⟨Nat.le_of_ble_eq_true rfl, Nat.le_of_ble_eq_true rfl⟩, ⟨Nat.le_of_ble_eq_true rfl, Nat.le_of_ble_eq_true rfl⟩⟩ (Nat.le_of_ble_eq_true rfl) ?_
      show Go l D ad aC (rmk m_M_free) _ m_M_free 62 [some (.ref a0), some (.int x1), some (.int x2)] [.int v5] v1.2 0 0
      obtain rfl := Option.some.inj e
      exact Go.iret rfl (by decide) (by decide) (by decide +kernel)
    · replace e := ite_t c4 e
      refine Go.run (pc' := 44) [.aload_n 0] (ls' := [some (.ref a0), some (.int x1), some (.int x2)]) (st' := [.ref a0]) (by decide +kernel) rfl rfl ?_
      refine Go.getR fo_M_7 k0 (by decide +kernel) ?_
      refine Go.run (pc' := 48) [.iload_n 1] (ls' := [some (.ref a0), some (.int x1), some (.int x2)]) (st' := [.int x1, .ref (fld a0 1)]) (by decide +kernel) rfl rfl ?_
      obtain ⟨v7, e8, e⟩ := bd_inv e
      refine Go.callS (M2 := m_M_freeAt) (as := [.ref (fld a0 1), .int x1]) (rest := []) (v := some (.int v7)) (h1 := v1.2) (x_M_freeAt hf hI (kf_8_j 1 k0 (by decide) (by decide)) (al_8_j 1 k0 (by decide) (by decide) rfl) e8) ws_M_231 (by decide +kernel) rfl rfl ⟨⟨Nat.le_of_ble_eq_true rfl, Nat.le_of_ble_eq_true rfl⟩, ⟨Nat.le_of_ble_eq_true rfl, Nat.le_of_ble_eq_true rfl⟩⟩ (Nat.le_of_ble_eq_true rfl) ?_
      show Go l D ad aC (rmk m_M_free) _ m_M_free 51 [some (.ref a0), some (.int x1), some (.int x2)] [.int v7] v1.2 0 0
      refine Go.goto (off := 11) (tgt := 62) (by decide +kernel) (by decide) ?_
      obtain rfl := Option.some.inj e
      exact Go.iret rfl (by decide) (by decide) (by decide +kernel)
  · replace e := ite_f c3 e
    refine Go.run (pc' := 38) [.iconst 0] (ls' := [some (.ref a0), some (.int x1), some (.int x2)]) (st' := [.int (0 : Int32)]) (by decide +kernel) rfl rfl ?_
    obtain rfl := Option.some.inj e
    exact Go.iret rfl (by decide) (by decide) (by decide +kernel)
def f_M_free (h : HP) (a0 : Nat) (x1 : Int32) (x2 : Int32) : Option (Int32 × HP) :=
  (f_M_isWall h (fld a0 1) x1).bind fun v1 =>
  if v1 = 0 then
    f_M_free_31 a0 x1 x2 a0 (1 : Int32) h
  else
    (f_M_in h x2.toInt64 (0 : Int64) (1 : Int64)).bind fun v4 =>
    if v4 = 0 then
      f_M_free_31 a0 x1 x2 a0 (2 : Int32) h
    else
      f_M_free_31 a0 x1 x2 a0 (0 : Int32) h
set_option maxHeartbeats 1000000 in
theorem x_M_free {l : Launch} {D : va_G} {ad : Nat → Nat} {aC : Nat → ClassId} (hf : l.flags = flags0) (hI : Inj ad) {h : HP} {a0 : Nat} {x1 : Int32} {x2 : Int32} {r : Int32 × HP} (k0 : knd a0 = 8) (e : f_M_free h a0 x1 x2 = some r) : CT l D ad aC m_M_free [.ref a0, .int x1, .int x2] h (.inl (some (.int r.1))) r.2 := by
  refine CT.ofGo (by decide +kernel) rfl (Nat.le_of_ble_eq_true rfl) ?_
  unfold f_M_free at e
  show Go l D ad aC (rmk m_M_free) _ m_M_free 0 [some (.ref a0), some (.int x1), some (.int x2)] [] h 0 0
  refine Go.run (pc' := 2) [.aload_n 0, .aload_n 0] (ls' := [some (.ref a0), some (.int x1), some (.int x2)]) (st' := [.ref a0, .ref a0]) (by decide +kernel) rfl rfl ?_
  refine Go.getR fo_M_7 k0 (by decide +kernel) ?_
  refine Go.run (pc' := 6) [.iload_n 1] (ls' := [some (.ref a0), some (.int x1), some (.int x2)]) (st' := [.int x1, .ref (fld a0 1), .ref a0]) (by decide +kernel) rfl rfl ?_
  obtain ⟨v1, e2, e⟩ := bd_inv e
  refine Go.callS (M2 := m_M_isWall) (as := [.ref (fld a0 1), .int x1]) (rest := [.ref a0]) (v := some (.int v1)) (h1 := h) (x_M_isWall hf hI (kf_8_j 1 k0 (by decide) (by decide)) (al_8_j 1 k0 (by decide) (by decide) rfl) e2) ws_M_55 (by decide +kernel) rfl rfl ⟨⟨Nat.le_of_ble_eq_true rfl, Nat.le_of_ble_eq_true rfl⟩, ⟨Nat.le_of_ble_eq_true rfl, Nat.le_of_ble_eq_true rfl⟩⟩ (Nat.le_of_ble_eq_true rfl) ?_
  show Go l D ad aC (rmk m_M_free) _ m_M_free 9 [some (.ref a0), some (.int x1), some (.int x2)] [.int v1, .ref a0] h 0 0
  refine Go.if_ne (off := 7) (tgt := 16) (by decide +kernel) (by decide) (fun c3 => ?_) (fun c3 => ?_)
  · replace e := ite_f c3 e
    refine Go.run (pc' := 20) [.iload_n 2, .i2l, .lconst 0, .lconst 1] (ls' := [some (.ref a0), some (.int x1), some (.int x2)]) (st' := [.long (1 : Int64), .long (0 : Int64), .long x2.toInt64, .ref a0]) (by decide +kernel) rfl rfl ?_
    obtain ⟨v4, e5, e⟩ := bd_inv e
    refine Go.callS (M2 := m_M_in) (as := [.long x2.toInt64, .long (0 : Int64), .long (1 : Int64)]) (rest := [.ref a0]) (v := some (.int v4)) (h1 := h) (x_M_in hf hI  e5) ws_M_51 (by decide +kernel) rfl rfl ⟨⟨Nat.le_of_ble_eq_true rfl, Nat.le_of_ble_eq_true rfl⟩, ⟨Nat.le_of_ble_eq_true rfl, Nat.le_of_ble_eq_true rfl⟩⟩ (Nat.le_of_ble_eq_true rfl) ?_
    show Go l D ad aC (rmk m_M_free) _ m_M_free 23 [some (.ref a0), some (.int x1), some (.int x2)] [.int v4, .ref a0] h 0 0
    refine Go.if_ne (off := 7) (tgt := 30) (by decide +kernel) (by decide) (fun c6 => ?_) (fun c6 => ?_)
    · replace e := ite_f c6 e
      refine Go.run (pc' := 31) [.iconst 0] (ls' := [some (.ref a0), some (.int x1), some (.int x2)]) (st' := [.int (0 : Int32), .ref a0]) (by decide +kernel) rfl rfl ?_
      exact x_M_free_31 hf hI k0 k0 e
    · replace e := ite_t c6 e
      refine Go.run (pc' := 27) [.iconst 2] (ls' := [some (.ref a0), some (.int x1), some (.int x2)]) (st' := [.int (2 : Int32), .ref a0]) (by decide +kernel) rfl rfl ?_
      refine Go.goto (off := 4) (tgt := 31) (by decide +kernel) (by decide) ?_
      exact x_M_free_31 hf hI k0 k0 e
  · replace e := ite_t c3 e
    refine Go.run (pc' := 13) [.iconst 1] (ls' := [some (.ref a0), some (.int x1), some (.int x2)]) (st' := [.int (1 : Int32), .ref a0]) (by decide +kernel) rfl rfl ?_
    refine Go.goto (off := 18) (tgt := 31) (by decide +kernel) (by decide) ?_
    exact x_M_free_31 hf hI k0 k0 e
def f_M_wall_29  (a0 : Nat) (x1 : Int32) (b0 : Nat) (s1 : Int32) (h : HP) : Option (Int32 × HP) :=
  (f_M_refused h b0 s1).bind fun v1 =>
  if v1.1 = 0 then
    (f_M_remember v1.2 a0).bind fun v4 =>
    (f_M_addWall v4 (fld a0 1) x1).bind fun v6 =>
    some (v6.1, v6.2)
  else
    some ((0 : Int32), v1.2)
set_option maxHeartbeats 1000000 in
theorem x_M_wall_29 {l : Launch} {D : va_G} {ad : Nat → Nat} {aC : Nat → ClassId} (hf : l.flags = flags0) (hI : Inj ad) {a0 : Nat} {x1 : Int32} {b0 : Nat} {s1 : Int32} {h : HP} {r : Int32 × HP} (k0 : knd a0 = 8) (kb0 : knd b0 = 8) (e : f_M_wall_29 a0 x1 b0 s1 h = some r) : Go l D ad aC (rmk m_M_wall) (QM D ad aC m_M_wall (.inl (some (.int r.1))) r.2) m_M_wall 29 [some (.ref a0), some (.int x1)] [.int s1, .ref b0] h 0 0 := by
  unfold f_M_wall_29 at e
  obtain ⟨v1, e2, e⟩ := bd_inv e
  refine Go.callV (M2 := m_M_refused) (a := b0) (as := [.int s1]) (rest := []) (v := some (.int v1.1)) (h1 := v1.2) (x_M_refused hf hI kb0 e2) wv_M_142 kb0 kc_8 (by decide +kernel) rfl rfl ⟨⟨Nat.le_of_ble_eq_true rfl, Nat.le_of_ble_eq_true rfl⟩, ⟨Nat.le_of_ble_eq_true rfl, Nat.le_of_ble_eq_true rfl⟩⟩ (Nat.le_of_ble_eq_true rfl) ?_
  show Go l D ad aC (rmk m_M_wall) _ m_M_wall 32 [some (.ref a0), some (.int x1)] [.int v1.1] v1.2 0 0
  refine Go.if_eq (off := 5) (tgt := 37) (by decide +kernel) (by decide) (fun c3 => ?_) (fun c3 => ?_)
  · replace e := ite_t c3 e
    refine Go.run (pc' := 38) [.aload_n 0] (ls' := [some (.ref a0), some (.int x1)]) (st' := [.ref a0]) (by decide +kernel) rfl rfl ?_
    obtain ⟨v4, e5, e⟩ := bd_inv e
    refine Go.callV (M2 := m_M_remember) (a := a0) (as := []) (rest := []) (v := none) (h1 := v4) (x_M_remember hf hI k0 e5) wv_M_268 k0 kc_8 (by decide +kernel) rfl rfl ⟨⟨Nat.le_of_ble_eq_true rfl, Nat.le_of_ble_eq_true rfl⟩, ⟨Nat.le_of_ble_eq_true rfl, Nat.le_of_ble_eq_true rfl⟩⟩ (Nat.le_of_ble_eq_true rfl) ?_
    show Go l D ad aC (rmk m_M_wall) _ m_M_wall 41 [some (.ref a0), some (.int x1)] [] v4 0 0
    refine Go.run (pc' := 42) [.aload_n 0] (ls' := [some (.ref a0), some (.int x1)]) (st' := [.ref a0]) (by decide +kernel) rfl rfl ?_
    refine Go.getR fo_M_7 k0 (by decide +kernel) ?_
    refine Go.run (pc' := 46) [.iload_n 1] (ls' := [some (.ref a0), some (.int x1)]) (st' := [.int x1, .ref (fld a0 1)]) (by decide +kernel) rfl rfl ?_
    obtain ⟨v6, e7, e⟩ := bd_inv e
    refine Go.callS (M2 := m_M_addWall) (as := [.ref (fld a0 1), .int x1]) (rest := []) (v := some (.int v6.1)) (h1 := v6.2) (x_M_addWall hf hI (kf_8_j 1 k0 (by decide) (by decide)) (al_8_j 1 k0 (by decide) (by decide) rfl) e7) ws_M_193 (by decide +kernel) rfl rfl ⟨⟨Nat.le_of_ble_eq_true rfl, Nat.le_of_ble_eq_true rfl⟩, ⟨Nat.le_of_ble_eq_true rfl, Nat.le_of_ble_eq_true rfl⟩⟩ (Nat.le_of_ble_eq_true rfl) ?_
    show Go l D ad aC (rmk m_M_wall) _ m_M_wall 49 [some (.ref a0), some (.int x1)] [.int v6.1] v6.2 0 0
    obtain rfl := Option.some.inj e
    exact Go.iret rfl (by decide) (by decide) (by decide +kernel)
  · replace e := ite_f c3 e
    refine Go.run (pc' := 36) [.iconst 0] (ls' := [some (.ref a0), some (.int x1)]) (st' := [.int (0 : Int32)]) (by decide +kernel) rfl rfl ?_
    obtain rfl := Option.some.inj e
    exact Go.iret rfl (by decide) (by decide) (by decide +kernel)
def f_M_wall (h : HP) (a0 : Nat) (x1 : Int32) : Option (Int32 × HP) :=
  (f_M_isLength h x1).bind fun v1 =>
  if v1 = 0 then
    f_M_wall_29 a0 x1 a0 (1 : Int32) h
  else
    if ib (184 : Int32) 196 = true then
    if (h (fld a0 1) (184 : Int32).toNatClampNeg) = (4 : Int32) then
      f_M_wall_29 a0 x1 a0 (2 : Int32) h
    else
      f_M_wall_29 a0 x1 a0 (0 : Int32) h
    else none
set_option maxHeartbeats 1000000 in
theorem x_M_wall {l : Launch} {D : va_G} {ad : Nat → Nat} {aC : Nat → ClassId} (hf : l.flags = flags0) (hI : Inj ad) {h : HP} {a0 : Nat} {x1 : Int32} {r : Int32 × HP} (k0 : knd a0 = 8) (e : f_M_wall h a0 x1 = some r) : CT l D ad aC m_M_wall [.ref a0, .int x1] h (.inl (some (.int r.1))) r.2 := by
  refine CT.ofGo (by decide +kernel) rfl (Nat.le_of_ble_eq_true rfl) ?_
  unfold f_M_wall at e
  show Go l D ad aC (rmk m_M_wall) _ m_M_wall 0 [some (.ref a0), some (.int x1)] [] h 0 0
  refine Go.run (pc' := 2) [.aload_n 0, .iload_n 1] (ls' := [some (.ref a0), some (.int x1)]) (st' := [.int x1, .ref a0]) (by decide +kernel) rfl rfl ?_
  obtain ⟨v1, e2, e⟩ := bd_inv e
  refine Go.callS (M2 := m_M_isLength) (as := [.int x1]) (rest := [.ref a0]) (v := some (.int v1)) (h1 := h) (x_M_isLength hf hI  e2) ws_M_265 (by decide +kernel) rfl rfl ⟨⟨Nat.le_of_ble_eq_true rfl, Nat.le_of_ble_eq_true rfl⟩, ⟨Nat.le_of_ble_eq_true rfl, Nat.le_of_ble_eq_true rfl⟩⟩ (Nat.le_of_ble_eq_true rfl) ?_
  show Go l D ad aC (rmk m_M_wall) _ m_M_wall 5 [some (.ref a0), some (.int x1)] [.int v1, .ref a0] h 0 0
  refine Go.if_ne (off := 7) (tgt := 12) (by decide +kernel) (by decide) (fun c3 => ?_) (fun c3 => ?_)
  · replace e := ite_f c3 e
    refine Go.run (pc' := 13) [.aload_n 0] (ls' := [some (.ref a0), some (.int x1)]) (st' := [.ref a0, .ref a0]) (by decide +kernel) rfl rfl ?_
    refine Go.getR fo_M_7 k0 (by decide +kernel) ?_
    refine Go.run (pc' := 19) [.sipush (184)] (ls' := [some (.ref a0), some (.int x1)]) (st' := [.int (184 : Int32), .ref (fld a0 1), .ref a0]) (by decide +kernel) rfl rfl ?_
    obtain ⟨g4, e⟩ := gd_inv e
    refine Go.iald (kf_8_j 1 k0 (by decide) (by decide)) (al_8_j 1 k0 (by decide) (by decide) rfl) g4 (by decide +kernel) ?_
    refine Go.run (pc' := 21) [.iconst 4] (ls' := [some (.ref a0), some (.int x1)]) (st' := [.int (4 : Int32), .int (h (fld a0 1) (184 : Int32).toNatClampNeg), .ref a0]) (by decide +kernel) rfl rfl ?_
    refine Go.ic_ne (off := 7) (tgt := 28) (by decide +kernel) (by decide) (fun c5 => ?_) (fun c5 => ?_)
    · replace e := ite_f c5 e
      refine Go.run (pc' := 29) [.iconst 0] (ls' := [some (.ref a0), some (.int x1)]) (st' := [.int (0 : Int32), .ref a0]) (by decide +kernel) rfl rfl ?_
      exact x_M_wall_29 hf hI k0 k0 e
    · replace e := ite_t c5 e
      refine Go.run (pc' := 25) [.iconst 2] (ls' := [some (.ref a0), some (.int x1)]) (st' := [.int (2 : Int32), .ref a0]) (by decide +kernel) rfl rfl ?_
      refine Go.goto (off := 4) (tgt := 29) (by decide +kernel) (by decide) ?_
      exact x_M_wall_29 hf hI k0 k0 e
  · replace e := ite_t c3 e
    refine Go.run (pc' := 9) [.iconst 1] (ls' := [some (.ref a0), some (.int x1)]) (st' := [.int (1 : Int32), .ref a0]) (by decide +kernel) rfl rfl ?_
    refine Go.goto (off := 20) (tgt := 29) (by decide +kernel) (by decide) ?_
    exact x_M_wall_29 hf hI k0 k0 e
def f_M_outlet_34  (a0 : Nat) (x1 : Int32) (x2 : Int32) (x3 : Int32) (b0 : Nat) (s1 : Int32) (h : HP) : Option (Int32 × HP) :=
  (f_M_refused h b0 s1).bind fun v1 =>
  if v1.1 = 0 then
    (f_M_remember v1.2 a0).bind fun v4 =>
    (f_M_put v4 (fld a0 1) ((((31 : Int32) * x1) + (1 : Int32)) + x2) x3).bind fun v6 =>
    some (v6.1, v6.2)
  else
    some ((0 : Int32), v1.2)
set_option maxHeartbeats 1000000 in
theorem x_M_outlet_34 {l : Launch} {D : va_G} {ad : Nat → Nat} {aC : Nat → ClassId} (hf : l.flags = flags0) (hI : Inj ad) {a0 : Nat} {x1 : Int32} {x2 : Int32} {x3 : Int32} {b0 : Nat} {s1 : Int32} {h : HP} {r : Int32 × HP} (k0 : knd a0 = 8) (kb0 : knd b0 = 8) (e : f_M_outlet_34 a0 x1 x2 x3 b0 s1 h = some r) : Go l D ad aC (rmk m_M_outlet) (QM D ad aC m_M_outlet (.inl (some (.int r.1))) r.2) m_M_outlet 34 [some (.ref a0), some (.int x1), some (.int x2), some (.int x3)] [.int s1, .ref b0] h 0 0 := by
  unfold f_M_outlet_34 at e
  obtain ⟨v1, e2, e⟩ := bd_inv e
  refine Go.callV (M2 := m_M_refused) (a := b0) (as := [.int s1]) (rest := []) (v := some (.int v1.1)) (h1 := v1.2) (x_M_refused hf hI kb0 e2) wv_M_142 kb0 kc_8 (by decide +kernel) rfl rfl ⟨⟨Nat.le_of_ble_eq_true rfl, Nat.le_of_ble_eq_true rfl⟩, ⟨Nat.le_of_ble_eq_true rfl, Nat.le_of_ble_eq_true rfl⟩⟩ (Nat.le_of_ble_eq_true rfl) ?_
  show Go l D ad aC (rmk m_M_outlet) _ m_M_outlet 37 [some (.ref a0), some (.int x1), some (.int x2), some (.int x3)] [.int v1.1] v1.2 0 0
  refine Go.if_eq (off := 5) (tgt := 42) (by decide +kernel) (by decide) (fun c3 => ?_) (fun c3 => ?_)
  · replace e := ite_t c3 e
    refine Go.run (pc' := 43) [.aload_n 0] (ls' := [some (.ref a0), some (.int x1), some (.int x2), some (.int x3)]) (st' := [.ref a0]) (by decide +kernel) rfl rfl ?_
    obtain ⟨v4, e5, e⟩ := bd_inv e
    refine Go.callV (M2 := m_M_remember) (a := a0) (as := []) (rest := []) (v := none) (h1 := v4) (x_M_remember hf hI k0 e5) wv_M_268 k0 kc_8 (by decide +kernel) rfl rfl ⟨⟨Nat.le_of_ble_eq_true rfl, Nat.le_of_ble_eq_true rfl⟩, ⟨Nat.le_of_ble_eq_true rfl, Nat.le_of_ble_eq_true rfl⟩⟩ (Nat.le_of_ble_eq_true rfl) ?_
    show Go l D ad aC (rmk m_M_outlet) _ m_M_outlet 46 [some (.ref a0), some (.int x1), some (.int x2), some (.int x3)] [] v4 0 0
    refine Go.run (pc' := 47) [.aload_n 0] (ls' := [some (.ref a0), some (.int x1), some (.int x2), some (.int x3)]) (st' := [.ref a0]) (by decide +kernel) rfl rfl ?_
    refine Go.getR fo_M_7 k0 (by decide +kernel) ?_
    refine Go.run (pc' := 59) [.bipush (31), .iload_n 1, .imul, .iconst 1, .iadd, .iload_n 2, .iadd, .iload_n 3] (ls' := [some (.ref a0), some (.int x1), some (.int x2), some (.int x3)]) (st' := [.int x3, .int ((((31 : Int32) * x1) + (1 : Int32)) + x2), .ref (fld a0 1)]) (by decide +kernel) rfl rfl ?_
    obtain ⟨v6, e7, e⟩ := bd_inv e
    refine Go.callS (M2 := m_M_put) (as := [.ref (fld a0 1), .int ((((31 : Int32) * x1) + (1 : Int32)) + x2), .int x3]) (rest := []) (v := some (.int v6.1)) (h1 := v6.2) (x_M_put hf hI (kf_8_j 1 k0 (by decide) (by decide)) (al_8_j 1 k0 (by decide) (by decide) rfl) e7) ws_M_178 (by decide +kernel) rfl rfl ⟨⟨Nat.le_of_ble_eq_true rfl, Nat.le_of_ble_eq_true rfl⟩, ⟨Nat.le_of_ble_eq_true rfl, Nat.le_of_ble_eq_true rfl⟩⟩ (Nat.le_of_ble_eq_true rfl) ?_
    show Go l D ad aC (rmk m_M_outlet) _ m_M_outlet 62 [some (.ref a0), some (.int x1), some (.int x2), some (.int x3)] [.int v6.1] v6.2 0 0
    obtain rfl := Option.some.inj e
    exact Go.iret rfl (by decide) (by decide) (by decide +kernel)
  · replace e := ite_f c3 e
    refine Go.run (pc' := 41) [.iconst 0] (ls' := [some (.ref a0), some (.int x1), some (.int x2), some (.int x3)]) (st' := [.int (0 : Int32)]) (by decide +kernel) rfl rfl ?_
    obtain rfl := Option.some.inj e
    exact Go.iret rfl (by decide) (by decide) (by decide +kernel)
def f_M_outlet (h : HP) (a0 : Nat) (x1 : Int32) (x2 : Int32) (x3 : Int32) : Option (Int32 × HP) :=
  (f_M_isMetre h (fld a0 1) x1 x2).bind fun v1 =>
  if v1 = 0 then
    f_M_outlet_34 a0 x1 x2 x3 a0 (1 : Int32) h
  else
    (f_M_in h x3.toInt64 (0 : Int64) (4 : Int64)).bind fun v4 =>
    if v4 = 0 then
      f_M_outlet_34 a0 x1 x2 x3 a0 (2 : Int32) h
    else
      f_M_outlet_34 a0 x1 x2 x3 a0 (0 : Int32) h
set_option maxHeartbeats 1000000 in
theorem x_M_outlet {l : Launch} {D : va_G} {ad : Nat → Nat} {aC : Nat → ClassId} (hf : l.flags = flags0) (hI : Inj ad) {h : HP} {a0 : Nat} {x1 : Int32} {x2 : Int32} {x3 : Int32} {r : Int32 × HP} (k0 : knd a0 = 8) (e : f_M_outlet h a0 x1 x2 x3 = some r) : CT l D ad aC m_M_outlet [.ref a0, .int x1, .int x2, .int x3] h (.inl (some (.int r.1))) r.2 := by
  refine CT.ofGo (by decide +kernel) rfl (Nat.le_of_ble_eq_true rfl) ?_
  unfold f_M_outlet at e
  show Go l D ad aC (rmk m_M_outlet) _ m_M_outlet 0 [some (.ref a0), some (.int x1), some (.int x2), some (.int x3)] [] h 0 0
  refine Go.run (pc' := 2) [.aload_n 0, .aload_n 0] (ls' := [some (.ref a0), some (.int x1), some (.int x2), some (.int x3)]) (st' := [.ref a0, .ref a0]) (by decide +kernel) rfl rfl ?_
  refine Go.getR fo_M_7 k0 (by decide +kernel) ?_
  refine Go.run (pc' := 7) [.iload_n 1, .iload_n 2] (ls' := [some (.ref a0), some (.int x1), some (.int x2), some (.int x3)]) (st' := [.int x2, .int x1, .ref (fld a0 1), .ref a0]) (by decide +kernel) rfl rfl ?_
  obtain ⟨v1, e2, e⟩ := bd_inv e
  refine Go.callS (M2 := m_M_isMetre) (as := [.ref (fld a0 1), .int x1, .int x2]) (rest := [.ref a0]) (v := some (.int v1)) (h1 := h) (x_M_isMetre hf hI (kf_8_j 1 k0 (by decide) (by decide)) (al_8_j 1 k0 (by decide) (by decide) rfl) e2) ws_M_171 (by decide +kernel) rfl rfl ⟨⟨Nat.le_of_ble_eq_true rfl, Nat.le_of_ble_eq_true rfl⟩, ⟨Nat.le_of_ble_eq_true rfl, Nat.le_of_ble_eq_true rfl⟩⟩ (Nat.le_of_ble_eq_true rfl) ?_
  show Go l D ad aC (rmk m_M_outlet) _ m_M_outlet 10 [some (.ref a0), some (.int x1), some (.int x2), some (.int x3)] [.int v1, .ref a0] h 0 0
  refine Go.if_ne (off := 7) (tgt := 17) (by decide +kernel) (by decide) (fun c3 => ?_) (fun c3 => ?_)
  · replace e := ite_f c3 e
    refine Go.run (pc' := 20) [.iload_n 3, .i2l, .lconst 0] (ls' := [some (.ref a0), some (.int x1), some (.int x2), some (.int x3)]) (st' := [.long (0 : Int64), .long x3.toInt64, .ref a0]) (by decide +kernel) rfl rfl ?_
    refine Go.ldc2 lo_M_59 (by decide +kernel) ?_
    obtain ⟨v4, e5, e⟩ := bd_inv e
    refine Go.callS (M2 := m_M_in) (as := [.long x3.toInt64, .long (0 : Int64), .long (4 : Int64)]) (rest := [.ref a0]) (v := some (.int v4)) (h1 := h) (x_M_in hf hI  e5) ws_M_51 (by decide +kernel) rfl rfl ⟨⟨Nat.le_of_ble_eq_true rfl, Nat.le_of_ble_eq_true rfl⟩, ⟨Nat.le_of_ble_eq_true rfl, Nat.le_of_ble_eq_true rfl⟩⟩ (Nat.le_of_ble_eq_true rfl) ?_
    show Go l D ad aC (rmk m_M_outlet) _ m_M_outlet 26 [some (.ref a0), some (.int x1), some (.int x2), some (.int x3)] [.int v4, .ref a0] h 0 0
    refine Go.if_ne (off := 7) (tgt := 33) (by decide +kernel) (by decide) (fun c6 => ?_) (fun c6 => ?_)
    · replace e := ite_f c6 e
      refine Go.run (pc' := 34) [.iconst 0] (ls' := [some (.ref a0), some (.int x1), some (.int x2), some (.int x3)]) (st' := [.int (0 : Int32), .ref a0]) (by decide +kernel) rfl rfl ?_
      exact x_M_outlet_34 hf hI k0 k0 e
    · replace e := ite_t c6 e
      refine Go.run (pc' := 30) [.iconst 2] (ls' := [some (.ref a0), some (.int x1), some (.int x2), some (.int x3)]) (st' := [.int (2 : Int32), .ref a0]) (by decide +kernel) rfl rfl ?_
      refine Go.goto (off := 4) (tgt := 34) (by decide +kernel) (by decide) ?_
      exact x_M_outlet_34 hf hI k0 k0 e
  · replace e := ite_t c3 e
    refine Go.run (pc' := 14) [.iconst 1] (ls' := [some (.ref a0), some (.int x1), some (.int x2), some (.int x3)]) (st' := [.int (1 : Int32), .ref a0]) (by decide +kernel) rfl rfl ?_
    refine Go.goto (off := 20) (tgt := 34) (by decide +kernel) (by decide) ?_
    exact x_M_outlet_34 hf hI k0 k0 e
def f_M_dealer_32  (a0 : Nat) (x1 : Int32) (x2 : Int32) (x3 : Int32) (b0 : Nat) (s1 : Int32) (h : HP) : Option (Int32 × HP) :=
  (f_M_refused h b0 s1).bind fun v1 =>
  if v1.1 = 0 then
    (f_M_remember v1.2 a0).bind fun v4 =>
    (f_M_addDealer v4 (fld a0 1) x1 x2 x3).bind fun v6 =>
    some (v6.1, v6.2)
  else
    some ((0 : Int32), v1.2)
set_option maxHeartbeats 1000000 in
theorem x_M_dealer_32 {l : Launch} {D : va_G} {ad : Nat → Nat} {aC : Nat → ClassId} (hf : l.flags = flags0) (hI : Inj ad) {a0 : Nat} {x1 : Int32} {x2 : Int32} {x3 : Int32} {b0 : Nat} {s1 : Int32} {h : HP} {r : Int32 × HP} (k0 : knd a0 = 8) (kb0 : knd b0 = 8) (e : f_M_dealer_32 a0 x1 x2 x3 b0 s1 h = some r) : Go l D ad aC (rmk m_M_dealer) (QM D ad aC m_M_dealer (.inl (some (.int r.1))) r.2) m_M_dealer 32 [some (.ref a0), some (.int x1), some (.int x2), some (.int x3)] [.int s1, .ref b0] h 0 0 := by
  unfold f_M_dealer_32 at e
  obtain ⟨v1, e2, e⟩ := bd_inv e
  refine Go.callV (M2 := m_M_refused) (a := b0) (as := [.int s1]) (rest := []) (v := some (.int v1.1)) (h1 := v1.2) (x_M_refused hf hI kb0 e2) wv_M_142 kb0 kc_8 (by decide +kernel) rfl rfl ⟨⟨Nat.le_of_ble_eq_true rfl, Nat.le_of_ble_eq_true rfl⟩, ⟨Nat.le_of_ble_eq_true rfl, Nat.le_of_ble_eq_true rfl⟩⟩ (Nat.le_of_ble_eq_true rfl) ?_
  show Go l D ad aC (rmk m_M_dealer) _ m_M_dealer 35 [some (.ref a0), some (.int x1), some (.int x2), some (.int x3)] [.int v1.1] v1.2 0 0
  refine Go.if_eq (off := 5) (tgt := 40) (by decide +kernel) (by decide) (fun c3 => ?_) (fun c3 => ?_)
  · replace e := ite_t c3 e
    refine Go.run (pc' := 41) [.aload_n 0] (ls' := [some (.ref a0), some (.int x1), some (.int x2), some (.int x3)]) (st' := [.ref a0]) (by decide +kernel) rfl rfl ?_
    obtain ⟨v4, e5, e⟩ := bd_inv e
    refine Go.callV (M2 := m_M_remember) (a := a0) (as := []) (rest := []) (v := none) (h1 := v4) (x_M_remember hf hI k0 e5) wv_M_268 k0 kc_8 (by decide +kernel) rfl rfl ⟨⟨Nat.le_of_ble_eq_true rfl, Nat.le_of_ble_eq_true rfl⟩, ⟨Nat.le_of_ble_eq_true rfl, Nat.le_of_ble_eq_true rfl⟩⟩ (Nat.le_of_ble_eq_true rfl) ?_
    show Go l D ad aC (rmk m_M_dealer) _ m_M_dealer 44 [some (.ref a0), some (.int x1), some (.int x2), some (.int x3)] [] v4 0 0
    refine Go.run (pc' := 45) [.aload_n 0] (ls' := [some (.ref a0), some (.int x1), some (.int x2), some (.int x3)]) (st' := [.ref a0]) (by decide +kernel) rfl rfl ?_
    refine Go.getR fo_M_7 k0 (by decide +kernel) ?_
    refine Go.run (pc' := 51) [.iload_n 1, .iload_n 2, .iload_n 3] (ls' := [some (.ref a0), some (.int x1), some (.int x2), some (.int x3)]) (st' := [.int x3, .int x2, .int x1, .ref (fld a0 1)]) (by decide +kernel) rfl rfl ?_
    obtain ⟨v6, e7, e⟩ := bd_inv e
    refine Go.callS (M2 := m_M_addDealer) (as := [.ref (fld a0 1), .int x1, .int x2, .int x3]) (rest := []) (v := some (.int v6.1)) (h1 := v6.2) (x_M_addDealer hf hI (kf_8_j 1 k0 (by decide) (by decide)) (al_8_j 1 k0 (by decide) (by decide) rfl) e7) ws_M_181 (by decide +kernel) rfl rfl ⟨⟨Nat.le_of_ble_eq_true rfl, Nat.le_of_ble_eq_true rfl⟩, ⟨Nat.le_of_ble_eq_true rfl, Nat.le_of_ble_eq_true rfl⟩⟩ (Nat.le_of_ble_eq_true rfl) ?_
    show Go l D ad aC (rmk m_M_dealer) _ m_M_dealer 54 [some (.ref a0), some (.int x1), some (.int x2), some (.int x3)] [.int v6.1] v6.2 0 0
    obtain rfl := Option.some.inj e
    exact Go.iret rfl (by decide) (by decide) (by decide +kernel)
  · replace e := ite_f c3 e
    refine Go.run (pc' := 39) [.iconst 0] (ls' := [some (.ref a0), some (.int x1), some (.int x2), some (.int x3)]) (st' := [.int (0 : Int32)]) (by decide +kernel) rfl rfl ?_
    obtain rfl := Option.some.inj e
    exact Go.iret rfl (by decide) (by decide) (by decide +kernel)
def f_M_dealer (h : HP) (a0 : Nat) (x1 : Int32) (x2 : Int32) (x3 : Int32) : Option (Int32 × HP) :=
  (f_M_isKind h x1 x2 x3).bind fun v1 =>
  if v1 = 0 then
    f_M_dealer_32 a0 x1 x2 x3 a0 (1 : Int32) h
  else
    if ib (185 : Int32) 196 = true then
    if (h (fld a0 1) (185 : Int32).toNatClampNeg) = (10 : Int32) then
      f_M_dealer_32 a0 x1 x2 x3 a0 (2 : Int32) h
    else
      f_M_dealer_32 a0 x1 x2 x3 a0 (0 : Int32) h
    else none
set_option maxHeartbeats 1000000 in
theorem x_M_dealer {l : Launch} {D : va_G} {ad : Nat → Nat} {aC : Nat → ClassId} (hf : l.flags = flags0) (hI : Inj ad) {h : HP} {a0 : Nat} {x1 : Int32} {x2 : Int32} {x3 : Int32} {r : Int32 × HP} (k0 : knd a0 = 8) (e : f_M_dealer h a0 x1 x2 x3 = some r) : CT l D ad aC m_M_dealer [.ref a0, .int x1, .int x2, .int x3] h (.inl (some (.int r.1))) r.2 := by
  refine CT.ofGo (by decide +kernel) rfl (Nat.le_of_ble_eq_true rfl) ?_
  unfold f_M_dealer at e
  show Go l D ad aC (rmk m_M_dealer) _ m_M_dealer 0 [some (.ref a0), some (.int x1), some (.int x2), some (.int x3)] [] h 0 0
  refine Go.run (pc' := 4) [.aload_n 0, .iload_n 1, .iload_n 2, .iload_n 3] (ls' := [some (.ref a0), some (.int x1), some (.int x2), some (.int x3)]) (st' := [.int x3, .int x2, .int x1, .ref a0]) (by decide +kernel) rfl rfl ?_
  obtain ⟨v1, e2, e⟩ := bd_inv e
  refine Go.callS (M2 := m_M_isKind) (as := [.int x1, .int x2, .int x3]) (rest := [.ref a0]) (v := some (.int v1)) (h1 := h) (x_M_isKind hf hI  e2) ws_M_271 (by decide +kernel) rfl rfl ⟨⟨Nat.le_of_ble_eq_true rfl, Nat.le_of_ble_eq_true rfl⟩, ⟨Nat.le_of_ble_eq_true rfl, Nat.le_of_ble_eq_true rfl⟩⟩ (Nat.le_of_ble_eq_true rfl) ?_
  show Go l D ad aC (rmk m_M_dealer) _ m_M_dealer 7 [some (.ref a0), some (.int x1), some (.int x2), some (.int x3)] [.int v1, .ref a0] h 0 0
  refine Go.if_ne (off := 7) (tgt := 14) (by decide +kernel) (by decide) (fun c3 => ?_) (fun c3 => ?_)
  · replace e := ite_f c3 e
    refine Go.run (pc' := 15) [.aload_n 0] (ls' := [some (.ref a0), some (.int x1), some (.int x2), some (.int x3)]) (st' := [.ref a0, .ref a0]) (by decide +kernel) rfl rfl ?_
    refine Go.getR fo_M_7 k0 (by decide +kernel) ?_
    refine Go.run (pc' := 21) [.sipush (185)] (ls' := [some (.ref a0), some (.int x1), some (.int x2), some (.int x3)]) (st' := [.int (185 : Int32), .ref (fld a0 1), .ref a0]) (by decide +kernel) rfl rfl ?_
    obtain ⟨g4, e⟩ := gd_inv e
    refine Go.iald (kf_8_j 1 k0 (by decide) (by decide)) (al_8_j 1 k0 (by decide) (by decide) rfl) g4 (by decide +kernel) ?_
    refine Go.run (pc' := 24) [.bipush (10)] (ls' := [some (.ref a0), some (.int x1), some (.int x2), some (.int x3)]) (st' := [.int (10 : Int32), .int (h (fld a0 1) (185 : Int32).toNatClampNeg), .ref a0]) (by decide +kernel) rfl rfl ?_
    refine Go.ic_ne (off := 7) (tgt := 31) (by decide +kernel) (by decide) (fun c5 => ?_) (fun c5 => ?_)
    · replace e := ite_f c5 e
      refine Go.run (pc' := 32) [.iconst 0] (ls' := [some (.ref a0), some (.int x1), some (.int x2), some (.int x3)]) (st' := [.int (0 : Int32), .ref a0]) (by decide +kernel) rfl rfl ?_
      exact x_M_dealer_32 hf hI k0 k0 e
    · replace e := ite_t c5 e
      refine Go.run (pc' := 28) [.iconst 2] (ls' := [some (.ref a0), some (.int x1), some (.int x2), some (.int x3)]) (st' := [.int (2 : Int32), .ref a0]) (by decide +kernel) rfl rfl ?_
      refine Go.goto (off := 4) (tgt := 32) (by decide +kernel) (by decide) ?_
      exact x_M_dealer_32 hf hI k0 k0 e
  · replace e := ite_t c3 e
    refine Go.run (pc' := 11) [.iconst 1] (ls' := [some (.ref a0), some (.int x1), some (.int x2), some (.int x3)]) (st' := [.int (1 : Int32), .ref a0]) (by decide +kernel) rfl rfl ?_
    refine Go.goto (off := 21) (tgt := 32) (by decide +kernel) (by decide) ?_
    exact x_M_dealer_32 hf hI k0 k0 e
def f_M_place_29  (a0 : Nat) (x1 : Int32) (x2 : Int32) (x3 : Int32) (b0 : Nat) (s1 : Int32) (h : HP) : Option (Int32 × HP) :=
  (f_M_refused h b0 s1).bind fun v1 =>
  if v1.1 = 0 then
    (f_M_remember v1.2 a0).bind fun v4 =>
    (f_M_goPlace v4 (fld a0 1) x1 x2 x3).bind fun v6 =>
    some (v6.1, v6.2)
  else
    some ((0 : Int32), v1.2)
set_option maxHeartbeats 1000000 in
theorem x_M_place_29 {l : Launch} {D : va_G} {ad : Nat → Nat} {aC : Nat → ClassId} (hf : l.flags = flags0) (hI : Inj ad) {a0 : Nat} {x1 : Int32} {x2 : Int32} {x3 : Int32} {b0 : Nat} {s1 : Int32} {h : HP} {r : Int32 × HP} (k0 : knd a0 = 8) (kb0 : knd b0 = 8) (e : f_M_place_29 a0 x1 x2 x3 b0 s1 h = some r) : Go l D ad aC (rmk m_M_place) (QM D ad aC m_M_place (.inl (some (.int r.1))) r.2) m_M_place 29 [some (.ref a0), some (.int x1), some (.int x2), some (.int x3)] [.int s1, .ref b0] h 0 0 := by
  unfold f_M_place_29 at e
  obtain ⟨v1, e2, e⟩ := bd_inv e
  refine Go.callV (M2 := m_M_refused) (a := b0) (as := [.int s1]) (rest := []) (v := some (.int v1.1)) (h1 := v1.2) (x_M_refused hf hI kb0 e2) wv_M_142 kb0 kc_8 (by decide +kernel) rfl rfl ⟨⟨Nat.le_of_ble_eq_true rfl, Nat.le_of_ble_eq_true rfl⟩, ⟨Nat.le_of_ble_eq_true rfl, Nat.le_of_ble_eq_true rfl⟩⟩ (Nat.le_of_ble_eq_true rfl) ?_
  show Go l D ad aC (rmk m_M_place) _ m_M_place 32 [some (.ref a0), some (.int x1), some (.int x2), some (.int x3)] [.int v1.1] v1.2 0 0
  refine Go.if_eq (off := 5) (tgt := 37) (by decide +kernel) (by decide) (fun c3 => ?_) (fun c3 => ?_)
  · replace e := ite_t c3 e
    refine Go.run (pc' := 38) [.aload_n 0] (ls' := [some (.ref a0), some (.int x1), some (.int x2), some (.int x3)]) (st' := [.ref a0]) (by decide +kernel) rfl rfl ?_
    obtain ⟨v4, e5, e⟩ := bd_inv e
    refine Go.callV (M2 := m_M_remember) (a := a0) (as := []) (rest := []) (v := none) (h1 := v4) (x_M_remember hf hI k0 e5) wv_M_268 k0 kc_8 (by decide +kernel) rfl rfl ⟨⟨Nat.le_of_ble_eq_true rfl, Nat.le_of_ble_eq_true rfl⟩, ⟨Nat.le_of_ble_eq_true rfl, Nat.le_of_ble_eq_true rfl⟩⟩ (Nat.le_of_ble_eq_true rfl) ?_
    show Go l D ad aC (rmk m_M_place) _ m_M_place 41 [some (.ref a0), some (.int x1), some (.int x2), some (.int x3)] [] v4 0 0
    refine Go.run (pc' := 42) [.aload_n 0] (ls' := [some (.ref a0), some (.int x1), some (.int x2), some (.int x3)]) (st' := [.ref a0]) (by decide +kernel) rfl rfl ?_
    refine Go.getR fo_M_7 k0 (by decide +kernel) ?_
    refine Go.run (pc' := 48) [.iload_n 1, .iload_n 2, .iload_n 3] (ls' := [some (.ref a0), some (.int x1), some (.int x2), some (.int x3)]) (st' := [.int x3, .int x2, .int x1, .ref (fld a0 1)]) (by decide +kernel) rfl rfl ?_
    obtain ⟨v6, e7, e⟩ := bd_inv e
    refine Go.callS (M2 := m_M_goPlace) (as := [.ref (fld a0 1), .int x1, .int x2, .int x3]) (rest := []) (v := some (.int v6.1)) (h1 := v6.2) (x_M_goPlace hf hI (kf_8_j 1 k0 (by decide) (by decide)) (al_8_j 1 k0 (by decide) (by decide) rfl) e7) ws_M_187 (by decide +kernel) rfl rfl ⟨⟨Nat.le_of_ble_eq_true rfl, Nat.le_of_ble_eq_true rfl⟩, ⟨Nat.le_of_ble_eq_true rfl, Nat.le_of_ble_eq_true rfl⟩⟩ (Nat.le_of_ble_eq_true rfl) ?_
    show Go l D ad aC (rmk m_M_place) _ m_M_place 51 [some (.ref a0), some (.int x1), some (.int x2), some (.int x3)] [.int v6.1] v6.2 0 0
    obtain rfl := Option.some.inj e
    exact Go.iret rfl (by decide) (by decide) (by decide +kernel)
  · replace e := ite_f c3 e
    refine Go.run (pc' := 36) [.iconst 0] (ls' := [some (.ref a0), some (.int x1), some (.int x2), some (.int x3)]) (st' := [.int (0 : Int32)]) (by decide +kernel) rfl rfl ?_
    obtain rfl := Option.some.inj e
    exact Go.iret rfl (by decide) (by decide) (by decide +kernel)
def f_M_place_28  (a0 : Nat) (x1 : Int32) (x2 : Int32) (x3 : Int32) (b0 : Nat) (h : HP) : Option (Int32 × HP) :=
  f_M_place_29 a0 x1 x2 x3 b0 (1 : Int32) h
set_option maxHeartbeats 1000000 in
theorem x_M_place_28 {l : Launch} {D : va_G} {ad : Nat → Nat} {aC : Nat → ClassId} (hf : l.flags = flags0) (hI : Inj ad) {a0 : Nat} {x1 : Int32} {x2 : Int32} {x3 : Int32} {b0 : Nat} {h : HP} {r : Int32 × HP} (k0 : knd a0 = 8) (kb0 : knd b0 = 8) (e : f_M_place_28 a0 x1 x2 x3 b0 h = some r) : Go l D ad aC (rmk m_M_place) (QM D ad aC m_M_place (.inl (some (.int r.1))) r.2) m_M_place 28 [some (.ref a0), some (.int x1), some (.int x2), some (.int x3)] [.ref b0] h 0 0 := by
  unfold f_M_place_28 at e
  refine Go.run (pc' := 29) [.iconst 1] (ls' := [some (.ref a0), some (.int x1), some (.int x2), some (.int x3)]) (st' := [.int (1 : Int32), .ref b0]) (by decide +kernel) rfl rfl ?_
  exact x_M_place_29 hf hI k0 kb0 e
def f_M_place (h : HP) (a0 : Nat) (x1 : Int32) (x2 : Int32) (x3 : Int32) : Option (Int32 × HP) :=
  (f_M_isDealer h (fld a0 1) x1).bind fun v1 =>
  if v1 = 0 then
    f_M_place_28 a0 x1 x2 x3 a0 h
  else
    (f_M_isMetre h (fld a0 1) x2 x3).bind fun v4 =>
    if v4 = 0 then
      f_M_place_28 a0 x1 x2 x3 a0 h
    else
      f_M_place_29 a0 x1 x2 x3 a0 (0 : Int32) h
set_option maxHeartbeats 1000000 in
theorem x_M_place {l : Launch} {D : va_G} {ad : Nat → Nat} {aC : Nat → ClassId} (hf : l.flags = flags0) (hI : Inj ad) {h : HP} {a0 : Nat} {x1 : Int32} {x2 : Int32} {x3 : Int32} {r : Int32 × HP} (k0 : knd a0 = 8) (e : f_M_place h a0 x1 x2 x3 = some r) : CT l D ad aC m_M_place [.ref a0, .int x1, .int x2, .int x3] h (.inl (some (.int r.1))) r.2 := by
  refine CT.ofGo (by decide +kernel) rfl (Nat.le_of_ble_eq_true rfl) ?_
  unfold f_M_place at e
  show Go l D ad aC (rmk m_M_place) _ m_M_place 0 [some (.ref a0), some (.int x1), some (.int x2), some (.int x3)] [] h 0 0
  refine Go.run (pc' := 2) [.aload_n 0, .aload_n 0] (ls' := [some (.ref a0), some (.int x1), some (.int x2), some (.int x3)]) (st' := [.ref a0, .ref a0]) (by decide +kernel) rfl rfl ?_
  refine Go.getR fo_M_7 k0 (by decide +kernel) ?_
  refine Go.run (pc' := 6) [.iload_n 1] (ls' := [some (.ref a0), some (.int x1), some (.int x2), some (.int x3)]) (st' := [.int x1, .ref (fld a0 1), .ref a0]) (by decide +kernel) rfl rfl ?_
  obtain ⟨v1, e2, e⟩ := bd_inv e
  refine Go.callS (M2 := m_M_isDealer) (as := [.ref (fld a0 1), .int x1]) (rest := [.ref a0]) (v := some (.int v1)) (h1 := h) (x_M_isDealer hf hI (kf_8_j 1 k0 (by decide) (by decide)) (al_8_j 1 k0 (by decide) (by decide) rfl) e2) ws_M_184 (by decide +kernel) rfl rfl ⟨⟨Nat.le_of_ble_eq_true rfl, Nat.le_of_ble_eq_true rfl⟩, ⟨Nat.le_of_ble_eq_true rfl, Nat.le_of_ble_eq_true rfl⟩⟩ (Nat.le_of_ble_eq_true rfl) ?_
  show Go l D ad aC (rmk m_M_place) _ m_M_place 9 [some (.ref a0), some (.int x1), some (.int x2), some (.int x3)] [.int v1, .ref a0] h 0 0
  refine Go.if_eq (off := 19) (tgt := 28) (by decide +kernel) (by decide) (fun c3 => ?_) (fun c3 => ?_)
  · replace e := ite_t c3 e
    exact x_M_place_28 hf hI k0 k0 e
  · replace e := ite_f c3 e
    refine Go.run (pc' := 13) [.aload_n 0] (ls' := [some (.ref a0), some (.int x1), some (.int x2), some (.int x3)]) (st' := [.ref a0, .ref a0]) (by decide +kernel) rfl rfl ?_
    refine Go.getR fo_M_7 k0 (by decide +kernel) ?_
    refine Go.run (pc' := 18) [.iload_n 2, .iload_n 3] (ls' := [some (.ref a0), some (.int x1), some (.int x2), some (.int x3)]) (st' := [.int x3, .int x2, .ref (fld a0 1), .ref a0]) (by decide +kernel) rfl rfl ?_
    obtain ⟨v4, e5, e⟩ := bd_inv e
    refine Go.callS (M2 := m_M_isMetre) (as := [.ref (fld a0 1), .int x2, .int x3]) (rest := [.ref a0]) (v := some (.int v4)) (h1 := h) (x_M_isMetre hf hI (kf_8_j 1 k0 (by decide) (by decide)) (al_8_j 1 k0 (by decide) (by decide) rfl) e5) ws_M_171 (by decide +kernel) rfl rfl ⟨⟨Nat.le_of_ble_eq_true rfl, Nat.le_of_ble_eq_true rfl⟩, ⟨Nat.le_of_ble_eq_true rfl, Nat.le_of_ble_eq_true rfl⟩⟩ (Nat.le_of_ble_eq_true rfl) ?_
    show Go l D ad aC (rmk m_M_place) _ m_M_place 21 [some (.ref a0), some (.int x1), some (.int x2), some (.int x3)] [.int v4, .ref a0] h 0 0
    refine Go.if_eq (off := 7) (tgt := 28) (by decide +kernel) (by decide) (fun c6 => ?_) (fun c6 => ?_)
    · replace e := ite_t c6 e
      exact x_M_place_28 hf hI k0 k0 e
    · replace e := ite_f c6 e
      refine Go.run (pc' := 25) [.iconst 0] (ls' := [some (.ref a0), some (.int x1), some (.int x2), some (.int x3)]) (st' := [.int (0 : Int32), .ref a0]) (by decide +kernel) rfl rfl ?_
      refine Go.goto (off := 4) (tgt := 29) (by decide +kernel) (by decide) ?_
      exact x_M_place_29 hf hI k0 k0 e
def f_M_leave_32  (a0 : Nat) (x1 : Int32) (b0 : Nat) (s1 : Int32) (h : HP) : Option (Int32 × HP) :=
  (f_M_refused h b0 s1).bind fun v1 =>
  if v1.1 = 0 then
    (f_M_remember v1.2 a0).bind fun v4 =>
    (f_M_goLeave v4 (fld a0 1) x1).bind fun v6 =>
    some (v6.1, v6.2)
  else
    some ((0 : Int32), v1.2)
set_option maxHeartbeats 1000000 in
theorem x_M_leave_32 {l : Launch} {D : va_G} {ad : Nat → Nat} {aC : Nat → ClassId} (hf : l.flags = flags0) (hI : Inj ad) {a0 : Nat} {x1 : Int32} {b0 : Nat} {s1 : Int32} {h : HP} {r : Int32 × HP} (k0 : knd a0 = 8) (kb0 : knd b0 = 8) (e : f_M_leave_32 a0 x1 b0 s1 h = some r) : Go l D ad aC (rmk m_M_leave) (QM D ad aC m_M_leave (.inl (some (.int r.1))) r.2) m_M_leave 32 [some (.ref a0), some (.int x1)] [.int s1, .ref b0] h 0 0 := by
  unfold f_M_leave_32 at e
  obtain ⟨v1, e2, e⟩ := bd_inv e
  refine Go.callV (M2 := m_M_refused) (a := b0) (as := [.int s1]) (rest := []) (v := some (.int v1.1)) (h1 := v1.2) (x_M_refused hf hI kb0 e2) wv_M_142 kb0 kc_8 (by decide +kernel) rfl rfl ⟨⟨Nat.le_of_ble_eq_true rfl, Nat.le_of_ble_eq_true rfl⟩, ⟨Nat.le_of_ble_eq_true rfl, Nat.le_of_ble_eq_true rfl⟩⟩ (Nat.le_of_ble_eq_true rfl) ?_
  show Go l D ad aC (rmk m_M_leave) _ m_M_leave 35 [some (.ref a0), some (.int x1)] [.int v1.1] v1.2 0 0
  refine Go.if_eq (off := 5) (tgt := 40) (by decide +kernel) (by decide) (fun c3 => ?_) (fun c3 => ?_)
  · replace e := ite_t c3 e
    refine Go.run (pc' := 41) [.aload_n 0] (ls' := [some (.ref a0), some (.int x1)]) (st' := [.ref a0]) (by decide +kernel) rfl rfl ?_
    obtain ⟨v4, e5, e⟩ := bd_inv e
    refine Go.callV (M2 := m_M_remember) (a := a0) (as := []) (rest := []) (v := none) (h1 := v4) (x_M_remember hf hI k0 e5) wv_M_268 k0 kc_8 (by decide +kernel) rfl rfl ⟨⟨Nat.le_of_ble_eq_true rfl, Nat.le_of_ble_eq_true rfl⟩, ⟨Nat.le_of_ble_eq_true rfl, Nat.le_of_ble_eq_true rfl⟩⟩ (Nat.le_of_ble_eq_true rfl) ?_
    show Go l D ad aC (rmk m_M_leave) _ m_M_leave 44 [some (.ref a0), some (.int x1)] [] v4 0 0
    refine Go.run (pc' := 45) [.aload_n 0] (ls' := [some (.ref a0), some (.int x1)]) (st' := [.ref a0]) (by decide +kernel) rfl rfl ?_
    refine Go.getR fo_M_7 k0 (by decide +kernel) ?_
    refine Go.run (pc' := 49) [.iload_n 1] (ls' := [some (.ref a0), some (.int x1)]) (st' := [.int x1, .ref (fld a0 1)]) (by decide +kernel) rfl rfl ?_
    obtain ⟨v6, e7, e⟩ := bd_inv e
    refine Go.callS (M2 := m_M_goLeave) (as := [.ref (fld a0 1), .int x1]) (rest := []) (v := some (.int v6.1)) (h1 := v6.2) (x_M_goLeave hf hI (kf_8_j 1 k0 (by decide) (by decide)) (al_8_j 1 k0 (by decide) (by decide) rfl) e7) ws_M_196 (by decide +kernel) rfl rfl ⟨⟨Nat.le_of_ble_eq_true rfl, Nat.le_of_ble_eq_true rfl⟩, ⟨Nat.le_of_ble_eq_true rfl, Nat.le_of_ble_eq_true rfl⟩⟩ (Nat.le_of_ble_eq_true rfl) ?_
    show Go l D ad aC (rmk m_M_leave) _ m_M_leave 52 [some (.ref a0), some (.int x1)] [.int v6.1] v6.2 0 0
    obtain rfl := Option.some.inj e
    exact Go.iret rfl (by decide) (by decide) (by decide +kernel)
  · replace e := ite_f c3 e
    refine Go.run (pc' := 39) [.iconst 0] (ls' := [some (.ref a0), some (.int x1)]) (st' := [.int (0 : Int32)]) (by decide +kernel) rfl rfl ?_
    obtain rfl := Option.some.inj e
    exact Go.iret rfl (by decide) (by decide) (by decide +kernel)
def f_M_leave (h : HP) (a0 : Nat) (x1 : Int32) : Option (Int32 × HP) :=
  (f_M_isDealer h (fld a0 1) x1).bind fun v1 =>
  if v1 = 0 then
    f_M_leave_32 a0 x1 a0 (1 : Int32) h
  else
    (f_M_stands h (fld a0 1) x1).bind fun v4 =>
    if v4 = 0 then
      f_M_leave_32 a0 x1 a0 (2 : Int32) h
    else
      f_M_leave_32 a0 x1 a0 (0 : Int32) h
set_option maxHeartbeats 1000000 in
theorem x_M_leave {l : Launch} {D : va_G} {ad : Nat → Nat} {aC : Nat → ClassId} (hf : l.flags = flags0) (hI : Inj ad) {h : HP} {a0 : Nat} {x1 : Int32} {r : Int32 × HP} (k0 : knd a0 = 8) (e : f_M_leave h a0 x1 = some r) : CT l D ad aC m_M_leave [.ref a0, .int x1] h (.inl (some (.int r.1))) r.2 := by
  refine CT.ofGo (by decide +kernel) rfl (Nat.le_of_ble_eq_true rfl) ?_
  unfold f_M_leave at e
  show Go l D ad aC (rmk m_M_leave) _ m_M_leave 0 [some (.ref a0), some (.int x1)] [] h 0 0
  refine Go.run (pc' := 2) [.aload_n 0, .aload_n 0] (ls' := [some (.ref a0), some (.int x1)]) (st' := [.ref a0, .ref a0]) (by decide +kernel) rfl rfl ?_
  refine Go.getR fo_M_7 k0 (by decide +kernel) ?_
  refine Go.run (pc' := 6) [.iload_n 1] (ls' := [some (.ref a0), some (.int x1)]) (st' := [.int x1, .ref (fld a0 1), .ref a0]) (by decide +kernel) rfl rfl ?_
  obtain ⟨v1, e2, e⟩ := bd_inv e
  refine Go.callS (M2 := m_M_isDealer) (as := [.ref (fld a0 1), .int x1]) (rest := [.ref a0]) (v := some (.int v1)) (h1 := h) (x_M_isDealer hf hI (kf_8_j 1 k0 (by decide) (by decide)) (al_8_j 1 k0 (by decide) (by decide) rfl) e2) ws_M_184 (by decide +kernel) rfl rfl ⟨⟨Nat.le_of_ble_eq_true rfl, Nat.le_of_ble_eq_true rfl⟩, ⟨Nat.le_of_ble_eq_true rfl, Nat.le_of_ble_eq_true rfl⟩⟩ (Nat.le_of_ble_eq_true rfl) ?_
  show Go l D ad aC (rmk m_M_leave) _ m_M_leave 9 [some (.ref a0), some (.int x1)] [.int v1, .ref a0] h 0 0
  refine Go.if_ne (off := 7) (tgt := 16) (by decide +kernel) (by decide) (fun c3 => ?_) (fun c3 => ?_)
  · replace e := ite_f c3 e
    refine Go.run (pc' := 17) [.aload_n 0] (ls' := [some (.ref a0), some (.int x1)]) (st' := [.ref a0, .ref a0]) (by decide +kernel) rfl rfl ?_
    refine Go.getR fo_M_7 k0 (by decide +kernel) ?_
    refine Go.run (pc' := 21) [.iload_n 1] (ls' := [some (.ref a0), some (.int x1)]) (st' := [.int x1, .ref (fld a0 1), .ref a0]) (by decide +kernel) rfl rfl ?_
    obtain ⟨v4, e5, e⟩ := bd_inv e
    refine Go.callS (M2 := m_M_stands) (as := [.ref (fld a0 1), .int x1]) (rest := [.ref a0]) (v := some (.int v4)) (h1 := h) (x_M_stands hf hI (kf_8_j 1 k0 (by decide) (by decide)) (al_8_j 1 k0 (by decide) (by decide) rfl) e5) ws_M_89 (by decide +kernel) rfl rfl ⟨⟨Nat.le_of_ble_eq_true rfl, Nat.le_of_ble_eq_true rfl⟩, ⟨Nat.le_of_ble_eq_true rfl, Nat.le_of_ble_eq_true rfl⟩⟩ (Nat.le_of_ble_eq_true rfl) ?_
    show Go l D ad aC (rmk m_M_leave) _ m_M_leave 24 [some (.ref a0), some (.int x1)] [.int v4, .ref a0] h 0 0
    refine Go.if_ne (off := 7) (tgt := 31) (by decide +kernel) (by decide) (fun c6 => ?_) (fun c6 => ?_)
    · replace e := ite_f c6 e
      refine Go.run (pc' := 32) [.iconst 0] (ls' := [some (.ref a0), some (.int x1)]) (st' := [.int (0 : Int32), .ref a0]) (by decide +kernel) rfl rfl ?_
      exact x_M_leave_32 hf hI k0 k0 e
    · replace e := ite_t c6 e
      refine Go.run (pc' := 28) [.iconst 2] (ls' := [some (.ref a0), some (.int x1)]) (st' := [.int (2 : Int32), .ref a0]) (by decide +kernel) rfl rfl ?_
      refine Go.goto (off := 4) (tgt := 32) (by decide +kernel) (by decide) ?_
      exact x_M_leave_32 hf hI k0 k0 e
  · replace e := ite_t c3 e
    refine Go.run (pc' := 13) [.iconst 1] (ls' := [some (.ref a0), some (.int x1)]) (st' := [.int (1 : Int32), .ref a0]) (by decide +kernel) rfl rfl ?_
    refine Go.goto (off := 19) (tgt := 32) (by decide +kernel) (by decide) ?_
    exact x_M_leave_32 hf hI k0 k0 e
def f_M_areDealers (h : HP) (a0 : Nat) (x1 : Int32) (x2 : Int32) : Option (Int32) :=
  (f_M_isDealer h a0 x1).bind fun v1 =>
  if v1 = 0 then
    some (0 : Int32)
  else
    (f_M_isDealer h a0 x2).bind fun v4 =>
    if v4 = 0 then
      some (0 : Int32)
    else
      some (1 : Int32)
set_option maxHeartbeats 1000000 in
theorem x_M_areDealers {l : Launch} {D : va_G} {ad : Nat → Nat} {aC : Nat → ClassId} (hf : l.flags = flags0) (hI : Inj ad) {h : HP} {a0 : Nat} {x1 : Int32} {x2 : Int32} {r : Int32} (k0 : knd a0 = 10) (q0 : alen a0 = 196) (e : f_M_areDealers h a0 x1 x2 = some r) : CT l D ad aC m_M_areDealers [.ref a0, .int x1, .int x2] h (.inl (some (.int r))) h := by
  refine CT.ofGo (by decide +kernel) rfl (Nat.le_of_ble_eq_true rfl) ?_
  unfold f_M_areDealers at e
  show Go l D ad aC (rmk m_M_areDealers) _ m_M_areDealers 0 [some (.ref a0), some (.int x1), some (.int x2)] [] h 0 0
  refine Go.run (pc' := 2) [.aload_n 0, .iload_n 1] (ls' := [some (.ref a0), some (.int x1), some (.int x2)]) (st' := [.int x1, .ref a0]) (by decide +kernel) rfl rfl ?_
  obtain ⟨v1, e2, e⟩ := bd_inv e
  refine Go.callS (M2 := m_M_isDealer) (as := [.ref a0, .int x1]) (rest := []) (v := some (.int v1)) (h1 := h) (x_M_isDealer hf hI k0 q0 e2) ws_M_184 (by decide +kernel) rfl rfl ⟨⟨Nat.le_of_ble_eq_true rfl, Nat.le_of_ble_eq_true rfl⟩, ⟨Nat.le_of_ble_eq_true rfl, Nat.le_of_ble_eq_true rfl⟩⟩ (Nat.le_of_ble_eq_true rfl) ?_
  show Go l D ad aC (rmk m_M_areDealers) _ m_M_areDealers 5 [some (.ref a0), some (.int x1), some (.int x2)] [.int v1] h 0 0
  refine Go.if_eq (off := 15) (tgt := 20) (by decide +kernel) (by decide) (fun c3 => ?_) (fun c3 => ?_)
  · replace e := ite_t c3 e
    refine Go.run (pc' := 21) [.iconst 0] (ls' := [some (.ref a0), some (.int x1), some (.int x2)]) (st' := [.int (0 : Int32)]) (by decide +kernel) rfl rfl ?_
    obtain rfl := Option.some.inj e
    exact Go.zret rfl nar_z0 (by decide) (by decide) (by decide +kernel)
  · replace e := ite_f c3 e
    refine Go.run (pc' := 10) [.aload_n 0, .iload_n 2] (ls' := [some (.ref a0), some (.int x1), some (.int x2)]) (st' := [.int x2, .ref a0]) (by decide +kernel) rfl rfl ?_
    obtain ⟨v4, e5, e⟩ := bd_inv e
    refine Go.callS (M2 := m_M_isDealer) (as := [.ref a0, .int x2]) (rest := []) (v := some (.int v4)) (h1 := h) (x_M_isDealer hf hI k0 q0 e5) ws_M_184 (by decide +kernel) rfl rfl ⟨⟨Nat.le_of_ble_eq_true rfl, Nat.le_of_ble_eq_true rfl⟩, ⟨Nat.le_of_ble_eq_true rfl, Nat.le_of_ble_eq_true rfl⟩⟩ (Nat.le_of_ble_eq_true rfl) ?_
    show Go l D ad aC (rmk m_M_areDealers) _ m_M_areDealers 13 [some (.ref a0), some (.int x1), some (.int x2)] [.int v4] h 0 0
    refine Go.if_eq (off := 7) (tgt := 20) (by decide +kernel) (by decide) (fun c6 => ?_) (fun c6 => ?_)
    · replace e := ite_t c6 e
      refine Go.run (pc' := 21) [.iconst 0] (ls' := [some (.ref a0), some (.int x1), some (.int x2)]) (st' := [.int (0 : Int32)]) (by decide +kernel) rfl rfl ?_
      obtain rfl := Option.some.inj e
      exact Go.zret rfl nar_z0 (by decide) (by decide) (by decide +kernel)
    · replace e := ite_f c6 e
      refine Go.run (pc' := 17) [.iconst 1] (ls' := [some (.ref a0), some (.int x1), some (.int x2)]) (st' := [.int (1 : Int32)]) (by decide +kernel) rfl rfl ?_
      refine Go.goto (off := 4) (tgt := 21) (by decide +kernel) (by decide) ?_
      obtain rfl := Option.some.inj e
      exact Go.zret rfl nar_z1 (by decide) (by decide) (by decide +kernel)
def f_M_swap_27  (a0 : Nat) (x1 : Int32) (x2 : Int32) (b0 : Nat) (s1 : Int32) (h : HP) : Option (Int32 × HP) :=
  (f_M_refused h b0 s1).bind fun v1 =>
  if v1.1 = 0 then
    (f_M_remember v1.2 a0).bind fun v4 =>
    (f_M_goSwap v4 (fld a0 1) x1 x2).bind fun v6 =>
    some (v6.1, v6.2)
  else
    some ((0 : Int32), v1.2)
set_option maxHeartbeats 1000000 in
theorem x_M_swap_27 {l : Launch} {D : va_G} {ad : Nat → Nat} {aC : Nat → ClassId} (hf : l.flags = flags0) (hI : Inj ad) {a0 : Nat} {x1 : Int32} {x2 : Int32} {b0 : Nat} {s1 : Int32} {h : HP} {r : Int32 × HP} (k0 : knd a0 = 8) (kb0 : knd b0 = 8) (e : f_M_swap_27 a0 x1 x2 b0 s1 h = some r) : Go l D ad aC (rmk m_M_swap) (QM D ad aC m_M_swap (.inl (some (.int r.1))) r.2) m_M_swap 27 [some (.ref a0), some (.int x1), some (.int x2)] [.int s1, .ref b0] h 0 0 := by
  unfold f_M_swap_27 at e
  obtain ⟨v1, e2, e⟩ := bd_inv e
  refine Go.callV (M2 := m_M_refused) (a := b0) (as := [.int s1]) (rest := []) (v := some (.int v1.1)) (h1 := v1.2) (x_M_refused hf hI kb0 e2) wv_M_142 kb0 kc_8 (by decide +kernel) rfl rfl ⟨⟨Nat.le_of_ble_eq_true rfl, Nat.le_of_ble_eq_true rfl⟩, ⟨Nat.le_of_ble_eq_true rfl, Nat.le_of_ble_eq_true rfl⟩⟩ (Nat.le_of_ble_eq_true rfl) ?_
  show Go l D ad aC (rmk m_M_swap) _ m_M_swap 30 [some (.ref a0), some (.int x1), some (.int x2)] [.int v1.1] v1.2 0 0
  refine Go.if_eq (off := 5) (tgt := 35) (by decide +kernel) (by decide) (fun c3 => ?_) (fun c3 => ?_)
  · replace e := ite_t c3 e
    refine Go.run (pc' := 36) [.aload_n 0] (ls' := [some (.ref a0), some (.int x1), some (.int x2)]) (st' := [.ref a0]) (by decide +kernel) rfl rfl ?_
    obtain ⟨v4, e5, e⟩ := bd_inv e
    refine Go.callV (M2 := m_M_remember) (a := a0) (as := []) (rest := []) (v := none) (h1 := v4) (x_M_remember hf hI k0 e5) wv_M_268 k0 kc_8 (by decide +kernel) rfl rfl ⟨⟨Nat.le_of_ble_eq_true rfl, Nat.le_of_ble_eq_true rfl⟩, ⟨Nat.le_of_ble_eq_true rfl, Nat.le_of_ble_eq_true rfl⟩⟩ (Nat.le_of_ble_eq_true rfl) ?_
    show Go l D ad aC (rmk m_M_swap) _ m_M_swap 39 [some (.ref a0), some (.int x1), some (.int x2)] [] v4 0 0
    refine Go.run (pc' := 40) [.aload_n 0] (ls' := [some (.ref a0), some (.int x1), some (.int x2)]) (st' := [.ref a0]) (by decide +kernel) rfl rfl ?_
    refine Go.getR fo_M_7 k0 (by decide +kernel) ?_
    refine Go.run (pc' := 45) [.iload_n 1, .iload_n 2] (ls' := [some (.ref a0), some (.int x1), some (.int x2)]) (st' := [.int x2, .int x1, .ref (fld a0 1)]) (by decide +kernel) rfl rfl ?_
    obtain ⟨v6, e7, e⟩ := bd_inv e
    refine Go.callS (M2 := m_M_goSwap) (as := [.ref (fld a0 1), .int x1, .int x2]) (rest := []) (v := some (.int v6.1)) (h1 := v6.2) (x_M_goSwap hf hI (kf_8_j 1 k0 (by decide) (by decide)) (al_8_j 1 k0 (by decide) (by decide) rfl) e7) ws_M_190 (by decide +kernel) rfl rfl ⟨⟨Nat.le_of_ble_eq_true rfl, Nat.le_of_ble_eq_true rfl⟩, ⟨Nat.le_of_ble_eq_true rfl, Nat.le_of_ble_eq_true rfl⟩⟩ (Nat.le_of_ble_eq_true rfl) ?_
    show Go l D ad aC (rmk m_M_swap) _ m_M_swap 48 [some (.ref a0), some (.int x1), some (.int x2)] [.int v6.1] v6.2 0 0
    obtain rfl := Option.some.inj e
    exact Go.iret rfl (by decide) (by decide) (by decide +kernel)
  · replace e := ite_f c3 e
    refine Go.run (pc' := 34) [.iconst 0] (ls' := [some (.ref a0), some (.int x1), some (.int x2)]) (st' := [.int (0 : Int32)]) (by decide +kernel) rfl rfl ?_
    obtain rfl := Option.some.inj e
    exact Go.iret rfl (by decide) (by decide) (by decide +kernel)
def f_M_swap (h : HP) (a0 : Nat) (x1 : Int32) (x2 : Int32) : Option (Int32 × HP) :=
  (f_M_areDealers h (fld a0 1) x1 x2).bind fun v1 =>
  if v1 = 0 then
    f_M_swap_27 a0 x1 x2 a0 (1 : Int32) h
  else
    if x1 = x2 then
      f_M_swap_27 a0 x1 x2 a0 (2 : Int32) h
    else
      f_M_swap_27 a0 x1 x2 a0 (0 : Int32) h
set_option maxHeartbeats 1000000 in
theorem x_M_swap {l : Launch} {D : va_G} {ad : Nat → Nat} {aC : Nat → ClassId} (hf : l.flags = flags0) (hI : Inj ad) {h : HP} {a0 : Nat} {x1 : Int32} {x2 : Int32} {r : Int32 × HP} (k0 : knd a0 = 8) (e : f_M_swap h a0 x1 x2 = some r) : CT l D ad aC m_M_swap [.ref a0, .int x1, .int x2] h (.inl (some (.int r.1))) r.2 := by
  refine CT.ofGo (by decide +kernel) rfl (Nat.le_of_ble_eq_true rfl) ?_
  unfold f_M_swap at e
  show Go l D ad aC (rmk m_M_swap) _ m_M_swap 0 [some (.ref a0), some (.int x1), some (.int x2)] [] h 0 0
  refine Go.run (pc' := 2) [.aload_n 0, .aload_n 0] (ls' := [some (.ref a0), some (.int x1), some (.int x2)]) (st' := [.ref a0, .ref a0]) (by decide +kernel) rfl rfl ?_
  refine Go.getR fo_M_7 k0 (by decide +kernel) ?_
  refine Go.run (pc' := 7) [.iload_n 1, .iload_n 2] (ls' := [some (.ref a0), some (.int x1), some (.int x2)]) (st' := [.int x2, .int x1, .ref (fld a0 1), .ref a0]) (by decide +kernel) rfl rfl ?_
  obtain ⟨v1, e2, e⟩ := bd_inv e
  refine Go.callS (M2 := m_M_areDealers) (as := [.ref (fld a0 1), .int x1, .int x2]) (rest := [.ref a0]) (v := some (.int v1)) (h1 := h) (x_M_areDealers hf hI (kf_8_j 1 k0 (by decide) (by decide)) (al_8_j 1 k0 (by decide) (by decide) rfl) e2) ws_M_275 (by decide +kernel) rfl rfl ⟨⟨Nat.le_of_ble_eq_true rfl, Nat.le_of_ble_eq_true rfl⟩, ⟨Nat.le_of_ble_eq_true rfl, Nat.le_of_ble_eq_true rfl⟩⟩ (Nat.le_of_ble_eq_true rfl) ?_
  show Go l D ad aC (rmk m_M_swap) _ m_M_swap 10 [some (.ref a0), some (.int x1), some (.int x2)] [.int v1, .ref a0] h 0 0
  refine Go.if_ne (off := 7) (tgt := 17) (by decide +kernel) (by decide) (fun c3 => ?_) (fun c3 => ?_)
  · replace e := ite_f c3 e
    refine Go.run (pc' := 19) [.iload_n 1, .iload_n 2] (ls' := [some (.ref a0), some (.int x1), some (.int x2)]) (st' := [.int x2, .int x1, .ref a0]) (by decide +kernel) rfl rfl ?_
    refine Go.ic_ne (off := 7) (tgt := 26) (by decide +kernel) (by decide) (fun c4 => ?_) (fun c4 => ?_)
    · replace e := ite_f c4 e
      refine Go.run (pc' := 27) [.iconst 0] (ls' := [some (.ref a0), some (.int x1), some (.int x2)]) (st' := [.int (0 : Int32), .ref a0]) (by decide +kernel) rfl rfl ?_
      exact x_M_swap_27 hf hI k0 k0 e
    · replace e := ite_t c4 e
      refine Go.run (pc' := 23) [.iconst 2] (ls' := [some (.ref a0), some (.int x1), some (.int x2)]) (st' := [.int (2 : Int32), .ref a0]) (by decide +kernel) rfl rfl ?_
      refine Go.goto (off := 4) (tgt := 27) (by decide +kernel) (by decide) ?_
      exact x_M_swap_27 hf hI k0 k0 e
  · replace e := ite_t c3 e
    refine Go.run (pc' := 14) [.iconst 1] (ls' := [some (.ref a0), some (.int x1), some (.int x2)]) (st' := [.int (1 : Int32), .ref a0]) (by decide +kernel) rfl rfl ?_
    refine Go.goto (off := 13) (tgt := 27) (by decide +kernel) (by decide) ?_
    exact x_M_swap_27 hf hI k0 k0 e
def f_M_days_18  (a0 : Nat) (x1 : Int32) (b0 : Nat) (s1 : Int32) (h : HP) : Option (Int32 × HP) :=
  (f_M_refused h b0 s1).bind fun v1 =>
  if v1.1 = 0 then
    (f_M_remember v1.2 a0).bind fun v4 =>
    (f_M_goDays v4 a0 (fld a0 1) x1).bind fun v6 =>
    some (v6.1, v6.2)
  else
    some ((0 : Int32), v1.2)
set_option maxHeartbeats 1000000 in
theorem x_M_days_18 {l : Launch} {D : va_G} {ad : Nat → Nat} {aC : Nat → ClassId} (hf : l.flags = flags0) (hI : Inj ad) {a0 : Nat} {x1 : Int32} {b0 : Nat} {s1 : Int32} {h : HP} {r : Int32 × HP} (k0 : knd a0 = 8) (kb0 : knd b0 = 8) (e : f_M_days_18 a0 x1 b0 s1 h = some r) : Go l D ad aC (rmk m_M_days) (QM D ad aC m_M_days (.inl (some (.int r.1))) r.2) m_M_days 18 [some (.ref a0), some (.int x1)] [.int s1, .ref b0] h 0 0 := by
  unfold f_M_days_18 at e
  obtain ⟨v1, e2, e⟩ := bd_inv e
  refine Go.callV (M2 := m_M_refused) (a := b0) (as := [.int s1]) (rest := []) (v := some (.int v1.1)) (h1 := v1.2) (x_M_refused hf hI kb0 e2) wv_M_142 kb0 kc_8 (by decide +kernel) rfl rfl ⟨⟨Nat.le_of_ble_eq_true rfl, Nat.le_of_ble_eq_true rfl⟩, ⟨Nat.le_of_ble_eq_true rfl, Nat.le_of_ble_eq_true rfl⟩⟩ (Nat.le_of_ble_eq_true rfl) ?_
  show Go l D ad aC (rmk m_M_days) _ m_M_days 21 [some (.ref a0), some (.int x1)] [.int v1.1] v1.2 0 0
  refine Go.if_eq (off := 5) (tgt := 26) (by decide +kernel) (by decide) (fun c3 => ?_) (fun c3 => ?_)
  · replace e := ite_t c3 e
    refine Go.run (pc' := 27) [.aload_n 0] (ls' := [some (.ref a0), some (.int x1)]) (st' := [.ref a0]) (by decide +kernel) rfl rfl ?_
    obtain ⟨v4, e5, e⟩ := bd_inv e
    refine Go.callV (M2 := m_M_remember) (a := a0) (as := []) (rest := []) (v := none) (h1 := v4) (x_M_remember hf hI k0 e5) wv_M_268 k0 kc_8 (by decide +kernel) rfl rfl ⟨⟨Nat.le_of_ble_eq_true rfl, Nat.le_of_ble_eq_true rfl⟩, ⟨Nat.le_of_ble_eq_true rfl, Nat.le_of_ble_eq_true rfl⟩⟩ (Nat.le_of_ble_eq_true rfl) ?_
    show Go l D ad aC (rmk m_M_days) _ m_M_days 30 [some (.ref a0), some (.int x1)] [] v4 0 0
    refine Go.run (pc' := 32) [.aload_n 0, .aload_n 0] (ls' := [some (.ref a0), some (.int x1)]) (st' := [.ref a0, .ref a0]) (by decide +kernel) rfl rfl ?_
    refine Go.getR fo_M_7 k0 (by decide +kernel) ?_
    refine Go.run (pc' := 36) [.iload_n 1] (ls' := [some (.ref a0), some (.int x1)]) (st' := [.int x1, .ref (fld a0 1), .ref a0]) (by decide +kernel) rfl rfl ?_
    obtain ⟨v6, e7, e⟩ := bd_inv e
    refine Go.callV (M2 := m_M_goDays) (a := a0) (as := [.ref (fld a0 1), .int x1]) (rest := []) (v := some (.int v6.1)) (h1 := v6.2) (x_M_goDays hf hI k0 (kf_8_j 1 k0 (by decide) (by decide)) (al_8_j 1 k0 (by decide) (by decide) rfl) e7) wv_M_199 k0 kc_8 (by decide +kernel) rfl rfl ⟨⟨Nat.le_of_ble_eq_true rfl, Nat.le_of_ble_eq_true rfl⟩, ⟨Nat.le_of_ble_eq_true rfl, Nat.le_of_ble_eq_true rfl⟩⟩ (Nat.le_of_ble_eq_true rfl) ?_
    show Go l D ad aC (rmk m_M_days) _ m_M_days 39 [some (.ref a0), some (.int x1)] [.int v6.1] v6.2 0 0
    obtain rfl := Option.some.inj e
    exact Go.iret rfl (by decide) (by decide) (by decide +kernel)
  · replace e := ite_f c3 e
    refine Go.run (pc' := 25) [.iconst 0] (ls' := [some (.ref a0), some (.int x1)]) (st' := [.int (0 : Int32)]) (by decide +kernel) rfl rfl ?_
    obtain rfl := Option.some.inj e
    exact Go.iret rfl (by decide) (by decide) (by decide +kernel)
def f_M_days (h : HP) (a0 : Nat) (x1 : Int32) : Option (Int32 × HP) :=
  (f_M_in h x1.toInt64 (1 : Int64) (60 : Int64)).bind fun v1 =>
  if v1 = 0 then
    f_M_days_18 a0 x1 a0 (1 : Int32) h
  else
    f_M_days_18 a0 x1 a0 (0 : Int32) h
set_option maxHeartbeats 1000000 in
theorem x_M_days {l : Launch} {D : va_G} {ad : Nat → Nat} {aC : Nat → ClassId} (hf : l.flags = flags0) (hI : Inj ad) {h : HP} {a0 : Nat} {x1 : Int32} {r : Int32 × HP} (k0 : knd a0 = 8) (e : f_M_days h a0 x1 = some r) : CT l D ad aC m_M_days [.ref a0, .int x1] h (.inl (some (.int r.1))) r.2 := by
  refine CT.ofGo (by decide +kernel) rfl (Nat.le_of_ble_eq_true rfl) ?_
  unfold f_M_days at e
  show Go l D ad aC (rmk m_M_days) _ m_M_days 0 [some (.ref a0), some (.int x1)] [] h 0 0
  refine Go.run (pc' := 4) [.aload_n 0, .iload_n 1, .i2l, .lconst 1] (ls' := [some (.ref a0), some (.int x1)]) (st' := [.long (1 : Int64), .long x1.toInt64, .ref a0]) (by decide +kernel) rfl rfl ?_
  refine Go.ldc2 lo_M_278 (by decide +kernel) ?_
  obtain ⟨v1, e2, e⟩ := bd_inv e
  refine Go.callS (M2 := m_M_in) (as := [.long x1.toInt64, .long (1 : Int64), .long (60 : Int64)]) (rest := [.ref a0]) (v := some (.int v1)) (h1 := h) (x_M_in hf hI  e2) ws_M_51 (by decide +kernel) rfl rfl ⟨⟨Nat.le_of_ble_eq_true rfl, Nat.le_of_ble_eq_true rfl⟩, ⟨Nat.le_of_ble_eq_true rfl, Nat.le_of_ble_eq_true rfl⟩⟩ (Nat.le_of_ble_eq_true rfl) ?_
  show Go l D ad aC (rmk m_M_days) _ m_M_days 10 [some (.ref a0), some (.int x1)] [.int v1, .ref a0] h 0 0
  refine Go.if_eq (off := 7) (tgt := 17) (by decide +kernel) (by decide) (fun c3 => ?_) (fun c3 => ?_)
  · replace e := ite_t c3 e
    refine Go.run (pc' := 18) [.iconst 1] (ls' := [some (.ref a0), some (.int x1)]) (st' := [.int (1 : Int32), .ref a0]) (by decide +kernel) rfl rfl ?_
    exact x_M_days_18 hf hI k0 k0 e
  · replace e := ite_f c3 e
    refine Go.run (pc' := 14) [.iconst 0] (ls' := [some (.ref a0), some (.int x1)]) (st' := [.int (0 : Int32), .ref a0]) (by decide +kernel) rfl rfl ?_
    refine Go.goto (off := 4) (tgt := 18) (by decide +kernel) (by decide) ?_
    exact x_M_days_18 hf hI k0 k0 e
def f_M_set_14  (a0 : Nat) (x1 : Int32) (x2 : Int32) (b0 : Nat) (s1 : Int32) (h : HP) : Option (Int32 × HP) :=
  (f_M_refused h b0 s1).bind fun v1 =>
  if v1.1 = 0 then
    (f_M_remember v1.2 a0).bind fun v4 =>
    (f_M_put v4 (fld a0 1) ((190 : Int32) + x1) x2).bind fun v6 =>
    some (v6.1, v6.2)
  else
    some ((0 : Int32), v1.2)
set_option maxHeartbeats 1000000 in
theorem x_M_set_14 {l : Launch} {D : va_G} {ad : Nat → Nat} {aC : Nat → ClassId} (hf : l.flags = flags0) (hI : Inj ad) {a0 : Nat} {x1 : Int32} {x2 : Int32} {b0 : Nat} {s1 : Int32} {h : HP} {r : Int32 × HP} (k0 : knd a0 = 8) (kb0 : knd b0 = 8) (e : f_M_set_14 a0 x1 x2 b0 s1 h = some r) : Go l D ad aC (rmk m_M_set) (QM D ad aC m_M_set (.inl (some (.int r.1))) r.2) m_M_set 14 [some (.ref a0), some (.int x1), some (.int x2)] [.int s1, .ref b0] h 0 0 := by
  unfold f_M_set_14 at e
  obtain ⟨v1, e2, e⟩ := bd_inv e
  refine Go.callV (M2 := m_M_refused) (a := b0) (as := [.int s1]) (rest := []) (v := some (.int v1.1)) (h1 := v1.2) (x_M_refused hf hI kb0 e2) wv_M_142 kb0 kc_8 (by decide +kernel) rfl rfl ⟨⟨Nat.le_of_ble_eq_true rfl, Nat.le_of_ble_eq_true rfl⟩, ⟨Nat.le_of_ble_eq_true rfl, Nat.le_of_ble_eq_true rfl⟩⟩ (Nat.le_of_ble_eq_true rfl) ?_
  show Go l D ad aC (rmk m_M_set) _ m_M_set 17 [some (.ref a0), some (.int x1), some (.int x2)] [.int v1.1] v1.2 0 0
  refine Go.if_eq (off := 5) (tgt := 22) (by decide +kernel) (by decide) (fun c3 => ?_) (fun c3 => ?_)
  · replace e := ite_t c3 e
    refine Go.run (pc' := 23) [.aload_n 0] (ls' := [some (.ref a0), some (.int x1), some (.int x2)]) (st' := [.ref a0]) (by decide +kernel) rfl rfl ?_
    obtain ⟨v4, e5, e⟩ := bd_inv e
    refine Go.callV (M2 := m_M_remember) (a := a0) (as := []) (rest := []) (v := none) (h1 := v4) (x_M_remember hf hI k0 e5) wv_M_268 k0 kc_8 (by decide +kernel) rfl rfl ⟨⟨Nat.le_of_ble_eq_true rfl, Nat.le_of_ble_eq_true rfl⟩, ⟨Nat.le_of_ble_eq_true rfl, Nat.le_of_ble_eq_true rfl⟩⟩ (Nat.le_of_ble_eq_true rfl) ?_
    show Go l D ad aC (rmk m_M_set) _ m_M_set 26 [some (.ref a0), some (.int x1), some (.int x2)] [] v4 0 0
    refine Go.run (pc' := 27) [.aload_n 0] (ls' := [some (.ref a0), some (.int x1), some (.int x2)]) (st' := [.ref a0]) (by decide +kernel) rfl rfl ?_
    refine Go.getR fo_M_7 k0 (by decide +kernel) ?_
    refine Go.run (pc' := 36) [.sipush (190), .iload_n 1, .iadd, .iload_n 2] (ls' := [some (.ref a0), some (.int x1), some (.int x2)]) (st' := [.int x2, .int ((190 : Int32) + x1), .ref (fld a0 1)]) (by decide +kernel) rfl rfl ?_
    obtain ⟨v6, e7, e⟩ := bd_inv e
    refine Go.callS (M2 := m_M_put) (as := [.ref (fld a0 1), .int ((190 : Int32) + x1), .int x2]) (rest := []) (v := some (.int v6.1)) (h1 := v6.2) (x_M_put hf hI (kf_8_j 1 k0 (by decide) (by decide)) (al_8_j 1 k0 (by decide) (by decide) rfl) e7) ws_M_178 (by decide +kernel) rfl rfl ⟨⟨Nat.le_of_ble_eq_true rfl, Nat.le_of_ble_eq_true rfl⟩, ⟨Nat.le_of_ble_eq_true rfl, Nat.le_of_ble_eq_true rfl⟩⟩ (Nat.le_of_ble_eq_true rfl) ?_
    show Go l D ad aC (rmk m_M_set) _ m_M_set 39 [some (.ref a0), some (.int x1), some (.int x2)] [.int v6.1] v6.2 0 0
    obtain rfl := Option.some.inj e
    exact Go.iret rfl (by decide) (by decide) (by decide +kernel)
  · replace e := ite_f c3 e
    refine Go.run (pc' := 21) [.iconst 0] (ls' := [some (.ref a0), some (.int x1), some (.int x2)]) (st' := [.int (0 : Int32)]) (by decide +kernel) rfl rfl ?_
    obtain rfl := Option.some.inj e
    exact Go.iret rfl (by decide) (by decide) (by decide +kernel)
def f_M_set (h : HP) (a0 : Nat) (x1 : Int32) (x2 : Int32) : Option (Int32 × HP) :=
  (f_M_isSetting h x1 x2).bind fun v1 =>
  if v1 = 0 then
    f_M_set_14 a0 x1 x2 a0 (1 : Int32) h
  else
    f_M_set_14 a0 x1 x2 a0 (0 : Int32) h
set_option maxHeartbeats 1000000 in
theorem x_M_set {l : Launch} {D : va_G} {ad : Nat → Nat} {aC : Nat → ClassId} (hf : l.flags = flags0) (hI : Inj ad) {h : HP} {a0 : Nat} {x1 : Int32} {x2 : Int32} {r : Int32 × HP} (k0 : knd a0 = 8) (e : f_M_set h a0 x1 x2 = some r) : CT l D ad aC m_M_set [.ref a0, .int x1, .int x2] h (.inl (some (.int r.1))) r.2 := by
  refine CT.ofGo (by decide +kernel) rfl (Nat.le_of_ble_eq_true rfl) ?_
  unfold f_M_set at e
  show Go l D ad aC (rmk m_M_set) _ m_M_set 0 [some (.ref a0), some (.int x1), some (.int x2)] [] h 0 0
  refine Go.run (pc' := 3) [.aload_n 0, .iload_n 1, .iload_n 2] (ls' := [some (.ref a0), some (.int x1), some (.int x2)]) (st' := [.int x2, .int x1, .ref a0]) (by decide +kernel) rfl rfl ?_
  obtain ⟨v1, e2, e⟩ := bd_inv e
  refine Go.callS (M2 := m_M_isSetting) (as := [.int x1, .int x2]) (rest := [.ref a0]) (v := some (.int v1)) (h1 := h) (x_M_isSetting hf hI  e2) ws_M_202 (by decide +kernel) rfl rfl ⟨⟨Nat.le_of_ble_eq_true rfl, Nat.le_of_ble_eq_true rfl⟩, ⟨Nat.le_of_ble_eq_true rfl, Nat.le_of_ble_eq_true rfl⟩⟩ (Nat.le_of_ble_eq_true rfl) ?_
  show Go l D ad aC (rmk m_M_set) _ m_M_set 6 [some (.ref a0), some (.int x1), some (.int x2)] [.int v1, .ref a0] h 0 0
  refine Go.if_eq (off := 7) (tgt := 13) (by decide +kernel) (by decide) (fun c3 => ?_) (fun c3 => ?_)
  · replace e := ite_t c3 e
    refine Go.run (pc' := 14) [.iconst 1] (ls' := [some (.ref a0), some (.int x1), some (.int x2)]) (st' := [.int (1 : Int32), .ref a0]) (by decide +kernel) rfl rfl ?_
    exact x_M_set_14 hf hI k0 k0 e
  · replace e := ite_f c3 e
    refine Go.run (pc' := 10) [.iconst 0] (ls' := [some (.ref a0), some (.int x1), some (.int x2)]) (st' := [.int (0 : Int32), .ref a0]) (by decide +kernel) rfl rfl ?_
    refine Go.goto (off := 4) (tgt := 14) (by decide +kernel) (by decide) ?_
    exact x_M_set_14 hf hI k0 k0 e
def f_M_undo_33  : Nat → Nat → Int32 → HP → Option (Int32 × HP)
  | 0, _, _, _ => none
  | n + 1, a0, x1, h =>
    if (196 : Int32) ≤ x1 then
      some (h a0 5, h)
    else
      if ib (((196 : Int32) * (h a0 5)) + x1) 2744 = true then
      if ib x1 196 = true then
      (some (hset h (fld a0 1) x1.toNatClampNeg (h (fld a0 4) (((196 : Int32) * (h a0 5)) + x1).toNatClampNeg))).bind fun h4 =>
      f_M_undo_33 n a0 (x1 + (1 : Int32)) h4
      else none
      else none
set_option maxHeartbeats 1000000 in
theorem x_M_undo_33 {l : Launch} {D : va_G} {ad : Nat → Nat} {aC : Nat → ClassId} (hf : l.flags = flags0) (hI : Inj ad) : ∀ (n : Nat) {a0 : Nat} {x1 : Int32} {h : HP} {r : Int32 × HP}, knd a0 = 8 → f_M_undo_33 n a0 x1 h = some r → Go l D ad aC (rmk m_M_undo) (QM D ad aC m_M_undo (.inl (some (.int r.1))) r.2) m_M_undo 33 [some (.ref a0), some (.int x1)] [] h 0 0 := by
  intro n
  induction n with
  | zero => intro a0 x1 h r k0 e; exact no_none e
  | succ n ih =>
    intro a0 x1 h r k0 e
    rw [f_M_undo_33] at e
    refine Go.run (pc' := 37) [.iload_n 1, .sipush (196)] (ls' := [some (.ref a0), some (.int x1)]) (st' := [.int (196 : Int32), .int x1]) (by decide +kernel) rfl rfl ?_
    refine Go.ic_ge (off := 30) (tgt := 67) (by decide +kernel) (by decide) (fun c1 => ?_) (fun c1 => ?_)
    · replace e := ite_t c1 e
      refine Go.run (pc' := 68) [.aload_n 0] (ls' := [some (.ref a0), some (.int x1)]) (st' := [.ref a0]) (by decide +kernel) rfl rfl ?_
      refine Go.getI fo_M_134 k0 (by decide +kernel) ?_
      obtain rfl := Option.some.inj e
      exact Go.iret rfl (by decide) (by decide) (by decide +kernel)
    · replace e := ite_f c1 e
      refine Go.run (pc' := 41) [.aload_n 0] (ls' := [some (.ref a0), some (.int x1)]) (st' := [.ref a0]) (by decide +kernel) rfl rfl ?_
      refine Go.getR fo_M_7 k0 (by decide +kernel) ?_
      refine Go.run (pc' := 46) [.iload_n 1, .aload_n 0] (ls' := [some (.ref a0), some (.int x1)]) (st' := [.ref a0, .int x1, .ref (fld a0 1)]) (by decide +kernel) rfl rfl ?_
      refine Go.getR fo_M_19 k0 (by decide +kernel) ?_
      refine Go.run (pc' := 53) [.sipush (196), .aload_n 0] (ls' := [some (.ref a0), some (.int x1)]) (st' := [.ref a0, .int (196 : Int32), .ref (fld a0 4), .int x1, .ref (fld a0 1)]) (by decide +kernel) rfl rfl ?_
      refine Go.getI fo_M_134 k0 (by decide +kernel) ?_
      refine Go.run (pc' := 59) [.imul, .iload_n 1, .iadd] (ls' := [some (.ref a0), some (.int x1)]) (st' := [.int (((196 : Int32) * (h a0 5)) + x1), .ref (fld a0 4), .int x1, .ref (fld a0 1)]) (by decide +kernel) rfl rfl ?_
      obtain ⟨g2, e⟩ := gd_inv e
      refine Go.iald (kf_8_j 4 k0 (by decide) (by decide)) (al_8_j 4 k0 (by decide) (by decide) rfl) g2 (by decide +kernel) ?_
      obtain ⟨g3, e⟩ := gd_inv e
      refine Go.iast hI (kf_8_j 1 k0 (by decide) (by decide)) (al_8_j 1 k0 (by decide) (by decide) rfl) g3 (by decide +kernel) ?_
      obtain ⟨h4, q5, e⟩ := bd_inv e
      refine Go.eqH (Option.some.inj q5) ?_
      refine Go.run (pc' := 64) [.iinc 1 (1)] (ls' := [some (.ref a0), some (.int (x1 + (1 : Int32)))]) (st' := []) (by decide +kernel) rfl rfl ?_
      refine Go.goto (off := -31) (tgt := 33) (by decide +kernel) (by decide) ?_
      exact ih k0 e
def f_M_undo_13  (a0 : Nat) (b0 : Nat) (s1 : Int32) (h : HP) : Option (Int32 × HP) :=
  (f_M_refused h b0 s1).bind fun v1 =>
  if v1.1 = 0 then
    (some (hset v1.2 a0 5 ((v1.2 a0 5) - (1 : Int32)))).bind fun h4 =>
    f_M_undo_33 4096 a0 (0 : Int32) h4
  else
    some ((0 : Int32), v1.2)
set_option maxHeartbeats 1000000 in
theorem x_M_undo_13 {l : Launch} {D : va_G} {ad : Nat → Nat} {aC : Nat → ClassId} (hf : l.flags = flags0) (hI : Inj ad) {a0 : Nat} {b0 : Nat} {s1 : Int32} {h : HP} {r : Int32 × HP} (k0 : knd a0 = 8) (kb0 : knd b0 = 8) (e : f_M_undo_13 a0 b0 s1 h = some r) : Go l D ad aC (rmk m_M_undo) (QM D ad aC m_M_undo (.inl (some (.int r.1))) r.2) m_M_undo 13 [some (.ref a0), none] [.int s1, .ref b0] h 0 0 := by
  unfold f_M_undo_13 at e
  obtain ⟨v1, e2, e⟩ := bd_inv e
  refine Go.callV (M2 := m_M_refused) (a := b0) (as := [.int s1]) (rest := []) (v := some (.int v1.1)) (h1 := v1.2) (x_M_refused hf hI kb0 e2) wv_M_142 kb0 kc_8 (by decide +kernel) rfl rfl ⟨⟨Nat.le_of_ble_eq_true rfl, Nat.le_of_ble_eq_true rfl⟩, ⟨Nat.le_of_ble_eq_true rfl, Nat.le_of_ble_eq_true rfl⟩⟩ (Nat.le_of_ble_eq_true rfl) ?_
  show Go l D ad aC (rmk m_M_undo) _ m_M_undo 16 [some (.ref a0), none] [.int v1.1] v1.2 0 0
  refine Go.if_eq (off := 5) (tgt := 21) (by decide +kernel) (by decide) (fun c3 => ?_) (fun c3 => ?_)
  · replace e := ite_t c3 e
    refine Go.run (pc' := 23) [.aload_n 0, .dup] (ls' := [some (.ref a0), none]) (st' := [.ref a0, .ref a0]) (by decide +kernel) rfl rfl ?_
    refine Go.getI fo_M_134 k0 (by decide +kernel) ?_
    refine Go.run (pc' := 28) [.iconst 1, .isub] (ls' := [some (.ref a0), none]) (st' := [.int ((v1.2 a0 5) - (1 : Int32)), .ref a0]) (by decide +kernel) rfl rfl ?_
    refine Go.put hI po_M_134 k0 (nar_i _) (fit_i _) (by decide +kernel) ?_
    obtain ⟨h4, q5, e⟩ := bd_inv e
    refine Go.eqH (Option.some.inj q5) ?_
    refine Go.run (pc' := 33) [.iconst 0, .istore_n 1] (ls' := [some (.ref a0), some (.int (0 : Int32))]) (st' := []) (by decide +kernel) rfl rfl ?_
    exact x_M_undo_33 hf hI 4096 k0 e
  · replace e := ite_f c3 e
    refine Go.run (pc' := 20) [.iconst 0] (ls' := [some (.ref a0), none]) (st' := [.int (0 : Int32)]) (by decide +kernel) rfl rfl ?_
    obtain rfl := Option.some.inj e
    exact Go.iret rfl (by decide) (by decide) (by decide +kernel)
def f_M_undo (h : HP) (a0 : Nat) : Option (Int32 × HP) :=
  if (h a0 5) = 0 then
    f_M_undo_13 a0 a0 (1 : Int32) h
  else
    f_M_undo_13 a0 a0 (0 : Int32) h
set_option maxHeartbeats 1000000 in
theorem x_M_undo {l : Launch} {D : va_G} {ad : Nat → Nat} {aC : Nat → ClassId} (hf : l.flags = flags0) (hI : Inj ad) {h : HP} {a0 : Nat} {r : Int32 × HP} (k0 : knd a0 = 8) (e : f_M_undo h a0 = some r) : CT l D ad aC m_M_undo [.ref a0] h (.inl (some (.int r.1))) r.2 := by
  refine CT.ofGo (by decide +kernel) rfl (Nat.le_of_ble_eq_true rfl) ?_
  unfold f_M_undo at e
  show Go l D ad aC (rmk m_M_undo) _ m_M_undo 0 [some (.ref a0), none] [] h 0 0
  refine Go.run (pc' := 2) [.aload_n 0, .aload_n 0] (ls' := [some (.ref a0), none]) (st' := [.ref a0, .ref a0]) (by decide +kernel) rfl rfl ?_
  refine Go.getI fo_M_134 k0 (by decide +kernel) ?_
  refine Go.if_ne (off := 7) (tgt := 12) (by decide +kernel) (by decide) (fun c1 => ?_) (fun c1 => ?_)
  · replace e := ite_f c1 e
    refine Go.run (pc' := 13) [.iconst 0] (ls' := [some (.ref a0), none]) (st' := [.int (0 : Int32), .ref a0]) (by decide +kernel) rfl rfl ?_
    exact x_M_undo_13 hf hI k0 k0 e
  · replace e := ite_t c1 e
    refine Go.run (pc' := 9) [.iconst 1] (ls' := [some (.ref a0), none]) (st' := [.int (1 : Int32), .ref a0]) (by decide +kernel) rfl rfl ?_
    refine Go.goto (off := 4) (tgt := 13) (by decide +kernel) (by decide) ?_
    exact x_M_undo_13 hf hI k0 k0 e
def f_M_rentAt (h : HP) (a0 : Nat) (x1 : Int32) (x2 : Int32) (x3 : Int32) : Option (Int32 × HP) :=
  (f_M_copy h (fld a0 1) (fld a0 2)).bind fun v1 =>
  (f_M_stand v1 (fld a0 2) x1 (-1 : Int32) (-1 : Int32)).bind fun v3 =>
  (f_M_fits v3 (fld a0 2) x1 x2 x3 x1).bind fun v5 =>
  if v5 = 0 then
    some ((-1 : Int32), v3)
  else
    (f_M_stand v3 (fld a0 2) x1 x2 x3).bind fun v8 =>
    (f_M_share v8 a0 (fld a0 2)).bind fun v10 =>
    (f_M_rent v10 a0 (fld a0 2) x1).bind fun v12 =>
    some (v12, v10)
set_option maxHeartbeats 1000000 in
theorem x_M_rentAt {l : Launch} {D : va_G} {ad : Nat → Nat} {aC : Nat → ClassId} (hf : l.flags = flags0) (hI : Inj ad) {h : HP} {a0 : Nat} {x1 : Int32} {x2 : Int32} {x3 : Int32} {r : Int32 × HP} (k0 : knd a0 = 8) (e : f_M_rentAt h a0 x1 x2 x3 = some r) : CT l D ad aC m_M_rentAt [.ref a0, .int x1, .int x2, .int x3] h (.inl (some (.int r.1))) r.2 := by
  refine CT.ofGo (by decide +kernel) rfl (Nat.le_of_ble_eq_true rfl) ?_
  unfold f_M_rentAt at e
  show Go l D ad aC (rmk m_M_rentAt) _ m_M_rentAt 0 [some (.ref a0), some (.int x1), some (.int x2), some (.int x3)] [] h 0 0
  refine Go.run (pc' := 1) [.aload_n 0] (ls' := [some (.ref a0), some (.int x1), some (.int x2), some (.int x3)]) (st' := [.ref a0]) (by decide +kernel) rfl rfl ?_
  refine Go.getR fo_M_7 k0 (by decide +kernel) ?_
  refine Go.run (pc' := 5) [.aload_n 0] (ls' := [some (.ref a0), some (.int x1), some (.int x2), some (.int x3)]) (st' := [.ref a0, .ref (fld a0 1)]) (by decide +kernel) rfl rfl ?_
  refine Go.getR fo_M_13 k0 (by decide +kernel) ?_
  obtain ⟨v1, e2, e⟩ := bd_inv e
  refine Go.callS (M2 := m_M_copy) (as := [.ref (fld a0 1), .ref (fld a0 2)]) (rest := []) (v := none) (h1 := v1) (x_M_copy hf hI (kf_8_j 1 k0 (by decide) (by decide)) (al_8_j 1 k0 (by decide) (by decide) rfl) (kf_8_j 2 k0 (by decide) (by decide)) (al_8_j 2 k0 (by decide) (by decide) rfl) e2) ws_M_227 (by decide +kernel) rfl rfl ⟨⟨Nat.le_of_ble_eq_true rfl, Nat.le_of_ble_eq_true rfl⟩, ⟨Nat.le_of_ble_eq_true rfl, Nat.le_of_ble_eq_true rfl⟩⟩ (Nat.le_of_ble_eq_true rfl) ?_
  show Go l D ad aC (rmk m_M_rentAt) _ m_M_rentAt 11 [some (.ref a0), some (.int x1), some (.int x2), some (.int x3)] [] v1 0 0
  refine Go.run (pc' := 12) [.aload_n 0] (ls' := [some (.ref a0), some (.int x1), some (.int x2), some (.int x3)]) (st' := [.ref a0]) (by decide +kernel) rfl rfl ?_
  refine Go.getR fo_M_13 k0 (by decide +kernel) ?_
  refine Go.run (pc' := 18) [.iload_n 1, .iconst (-1), .iconst (-1)] (ls' := [some (.ref a0), some (.int x1), some (.int x2), some (.int x3)]) (st' := [.int (-1 : Int32), .int (-1 : Int32), .int x1, .ref (fld a0 2)]) (by decide +kernel) rfl rfl ?_
  obtain ⟨v3, e4, e⟩ := bd_inv e
  refine Go.callS (M2 := m_M_stand) (as := [.ref (fld a0 2), .int x1, .int (-1 : Int32), .int (-1 : Int32)]) (rest := []) (v := none) (h1 := v3) (x_M_stand hf hI (kf_8_j 2 k0 (by decide) (by decide)) (al_8_j 2 k0 (by decide) (by decide) rfl) e4) ws_M_123 (by decide +kernel) rfl rfl ⟨⟨Nat.le_of_ble_eq_true rfl, Nat.le_of_ble_eq_true rfl⟩, ⟨Nat.le_of_ble_eq_true rfl, Nat.le_of_ble_eq_true rfl⟩⟩ (Nat.le_of_ble_eq_true rfl) ?_
  show Go l D ad aC (rmk m_M_rentAt) _ m_M_rentAt 21 [some (.ref a0), some (.int x1), some (.int x2), some (.int x3)] [] v3 0 0
  refine Go.run (pc' := 22) [.aload_n 0] (ls' := [some (.ref a0), some (.int x1), some (.int x2), some (.int x3)]) (st' := [.ref a0]) (by decide +kernel) rfl rfl ?_
  refine Go.getR fo_M_13 k0 (by decide +kernel) ?_
  refine Go.run (pc' := 29) [.iload_n 1, .iload_n 2, .iload_n 3, .iload_n 1] (ls' := [some (.ref a0), some (.int x1), some (.int x2), some (.int x3)]) (st' := [.int x1, .int x3, .int x2, .int x1, .ref (fld a0 2)]) (by decide +kernel) rfl rfl ?_
  obtain ⟨v5, e6, e⟩ := bd_inv e
  refine Go.callS (M2 := m_M_fits) (as := [.ref (fld a0 2), .int x1, .int x2, .int x3, .int x1]) (rest := []) (v := some (.int v5)) (h1 := v3) (x_M_fits hf hI (kf_8_j 2 k0 (by decide) (by decide)) (al_8_j 2 k0 (by decide) (by decide) rfl) e6) ws_M_115 (by decide +kernel) rfl rfl ⟨⟨Nat.le_of_ble_eq_true rfl, Nat.le_of_ble_eq_true rfl⟩, ⟨Nat.le_of_ble_eq_true rfl, Nat.le_of_ble_eq_true rfl⟩⟩ (Nat.le_of_ble_eq_true rfl) ?_
  show Go l D ad aC (rmk m_M_rentAt) _ m_M_rentAt 32 [some (.ref a0), some (.int x1), some (.int x2), some (.int x3)] [.int v5] v3 0 0
  refine Go.if_ne (off := 5) (tgt := 37) (by decide +kernel) (by decide) (fun c7 => ?_) (fun c7 => ?_)
  · replace e := ite_f c7 e
    refine Go.run (pc' := 38) [.aload_n 0] (ls' := [some (.ref a0), some (.int x1), some (.int x2), some (.int x3)]) (st' := [.ref a0]) (by decide +kernel) rfl rfl ?_
    refine Go.getR fo_M_13 k0 (by decide +kernel) ?_
    refine Go.run (pc' := 44) [.iload_n 1, .iload_n 2, .iload_n 3] (ls' := [some (.ref a0), some (.int x1), some (.int x2), some (.int x3)]) (st' := [.int x3, .int x2, .int x1, .ref (fld a0 2)]) (by decide +kernel) rfl rfl ?_
    obtain ⟨v8, e9, e⟩ := bd_inv e
    refine Go.callS (M2 := m_M_stand) (as := [.ref (fld a0 2), .int x1, .int x2, .int x3]) (rest := []) (v := none) (h1 := v8) (x_M_stand hf hI (kf_8_j 2 k0 (by decide) (by decide)) (al_8_j 2 k0 (by decide) (by decide) rfl) e9) ws_M_123 (by decide +kernel) rfl rfl ⟨⟨Nat.le_of_ble_eq_true rfl, Nat.le_of_ble_eq_true rfl⟩, ⟨Nat.le_of_ble_eq_true rfl, Nat.le_of_ble_eq_true rfl⟩⟩ (Nat.le_of_ble_eq_true rfl) ?_
    show Go l D ad aC (rmk m_M_rentAt) _ m_M_rentAt 47 [some (.ref a0), some (.int x1), some (.int x2), some (.int x3)] [] v8 0 0
    refine Go.run (pc' := 49) [.aload_n 0, .aload_n 0] (ls' := [some (.ref a0), some (.int x1), some (.int x2), some (.int x3)]) (st' := [.ref a0, .ref a0]) (by decide +kernel) rfl rfl ?_
    refine Go.getR fo_M_13 k0 (by decide +kernel) ?_
    obtain ⟨v10, e11, e⟩ := bd_inv e
    refine Go.callV (M2 := m_M_share) (a := a0) (as := [.ref (fld a0 2)]) (rest := []) (v := none) (h1 := v10) (x_M_share hf hI k0 (kf_8_j 2 k0 (by decide) (by decide)) (al_8_j 2 k0 (by decide) (by decide) rfl) e11) wv_M_109 k0 kc_8 (by decide +kernel) rfl rfl ⟨⟨Nat.le_of_ble_eq_true rfl, Nat.le_of_ble_eq_true rfl⟩, ⟨Nat.le_of_ble_eq_true rfl, Nat.le_of_ble_eq_true rfl⟩⟩ (Nat.le_of_ble_eq_true rfl) ?_
    show Go l D ad aC (rmk m_M_rentAt) _ m_M_rentAt 55 [some (.ref a0), some (.int x1), some (.int x2), some (.int x3)] [] v10 0 0
    refine Go.run (pc' := 57) [.aload_n 0, .aload_n 0] (ls' := [some (.ref a0), some (.int x1), some (.int x2), some (.int x3)]) (st' := [.ref a0, .ref a0]) (by decide +kernel) rfl rfl ?_
    refine Go.getR fo_M_13 k0 (by decide +kernel) ?_
    refine Go.run (pc' := 61) [.iload_n 1] (ls' := [some (.ref a0), some (.int x1), some (.int x2), some (.int x3)]) (st' := [.int x1, .ref (fld a0 2), .ref a0]) (by decide +kernel) rfl rfl ?_
    obtain ⟨v12, e13, e⟩ := bd_inv e
    refine Go.callV (M2 := m_M_rent) (a := a0) (as := [.ref (fld a0 2), .int x1]) (rest := []) (v := some (.int v12)) (h1 := v10) (x_M_rent hf hI k0 (kf_8_j 2 k0 (by decide) (by decide)) (al_8_j 2 k0 (by decide) (by decide) rfl) e13) wv_M_112 k0 kc_8 (by decide +kernel) rfl rfl ⟨⟨Nat.le_of_ble_eq_true rfl, Nat.le_of_ble_eq_true rfl⟩, ⟨Nat.le_of_ble_eq_true rfl, Nat.le_of_ble_eq_true rfl⟩⟩ (Nat.le_of_ble_eq_true rfl) ?_
    show Go l D ad aC (rmk m_M_rentAt) _ m_M_rentAt 64 [some (.ref a0), some (.int x1), some (.int x2), some (.int x3)] [.int v12] v10 0 0
    obtain rfl := Option.some.inj e
    exact Go.iret rfl (by decide) (by decide) (by decide +kernel)
  · replace e := ite_t c7 e
    refine Go.run (pc' := 36) [.iconst (-1)] (ls' := [some (.ref a0), some (.int x1), some (.int x2), some (.int x3)]) (st' := [.int (-1 : Int32)]) (by decide +kernel) rfl rfl ?_
    obtain rfl := Option.some.inj e
    exact Go.iret rfl (by decide) (by decide) (by decide +kernel)
def f_M_rentIf_29  (a0 : Nat) (x1 : Int32) (x2 : Int32) (x3 : Int32) (b0 : Nat) (s1 : Int32) (h : HP) : Option (Int32 × HP) :=
  (f_M_refused h b0 s1).bind fun v1 =>
  if v1.1 = 0 then
    (f_M_rentAt v1.2 a0 x1 x2 x3).bind fun v4 =>
    some (v4.1, v4.2)
  else
    some ((0 : Int32), v1.2)
set_option maxHeartbeats 1000000 in
theorem x_M_rentIf_29 {l : Launch} {D : va_G} {ad : Nat → Nat} {aC : Nat → ClassId} (hf : l.flags = flags0) (hI : Inj ad) {a0 : Nat} {x1 : Int32} {x2 : Int32} {x3 : Int32} {b0 : Nat} {s1 : Int32} {h : HP} {r : Int32 × HP} (k0 : knd a0 = 8) (kb0 : knd b0 = 8) (e : f_M_rentIf_29 a0 x1 x2 x3 b0 s1 h = some r) : Go l D ad aC (rmk m_M_rentIf) (QM D ad aC m_M_rentIf (.inl (some (.int r.1))) r.2) m_M_rentIf 29 [some (.ref a0), some (.int x1), some (.int x2), some (.int x3)] [.int s1, .ref b0] h 0 0 := by
  unfold f_M_rentIf_29 at e
  obtain ⟨v1, e2, e⟩ := bd_inv e
  refine Go.callV (M2 := m_M_refused) (a := b0) (as := [.int s1]) (rest := []) (v := some (.int v1.1)) (h1 := v1.2) (x_M_refused hf hI kb0 e2) wv_M_142 kb0 kc_8 (by decide +kernel) rfl rfl ⟨⟨Nat.le_of_ble_eq_true rfl, Nat.le_of_ble_eq_true rfl⟩, ⟨Nat.le_of_ble_eq_true rfl, Nat.le_of_ble_eq_true rfl⟩⟩ (Nat.le_of_ble_eq_true rfl) ?_
  show Go l D ad aC (rmk m_M_rentIf) _ m_M_rentIf 32 [some (.ref a0), some (.int x1), some (.int x2), some (.int x3)] [.int v1.1] v1.2 0 0
  refine Go.if_eq (off := 5) (tgt := 37) (by decide +kernel) (by decide) (fun c3 => ?_) (fun c3 => ?_)
  · replace e := ite_t c3 e
    refine Go.run (pc' := 41) [.aload_n 0, .iload_n 1, .iload_n 2, .iload_n 3] (ls' := [some (.ref a0), some (.int x1), some (.int x2), some (.int x3)]) (st' := [.int x3, .int x2, .int x1, .ref a0]) (by decide +kernel) rfl rfl ?_
    obtain ⟨v4, e5, e⟩ := bd_inv e
    refine Go.callV (M2 := m_M_rentAt) (a := a0) (as := [.int x1, .int x2, .int x3]) (rest := []) (v := some (.int v4.1)) (h1 := v4.2) (x_M_rentAt hf hI k0 e5) wv_M_280 k0 kc_8 (by decide +kernel) rfl rfl ⟨⟨Nat.le_of_ble_eq_true rfl, Nat.le_of_ble_eq_true rfl⟩, ⟨Nat.le_of_ble_eq_true rfl, Nat.le_of_ble_eq_true rfl⟩⟩ (Nat.le_of_ble_eq_true rfl) ?_
    show Go l D ad aC (rmk m_M_rentIf) _ m_M_rentIf 44 [some (.ref a0), some (.int x1), some (.int x2), some (.int x3)] [.int v4.1] v4.2 0 0
    obtain rfl := Option.some.inj e
    exact Go.iret rfl (by decide) (by decide) (by decide +kernel)
  · replace e := ite_f c3 e
    refine Go.run (pc' := 36) [.iconst 0] (ls' := [some (.ref a0), some (.int x1), some (.int x2), some (.int x3)]) (st' := [.int (0 : Int32)]) (by decide +kernel) rfl rfl ?_
    obtain rfl := Option.some.inj e
    exact Go.iret rfl (by decide) (by decide) (by decide +kernel)
def f_M_rentIf_28  (a0 : Nat) (x1 : Int32) (x2 : Int32) (x3 : Int32) (b0 : Nat) (h : HP) : Option (Int32 × HP) :=
  f_M_rentIf_29 a0 x1 x2 x3 b0 (1 : Int32) h
set_option maxHeartbeats 1000000 in
theorem x_M_rentIf_28 {l : Launch} {D : va_G} {ad : Nat → Nat} {aC : Nat → ClassId} (hf : l.flags = flags0) (hI : Inj ad) {a0 : Nat} {x1 : Int32} {x2 : Int32} {x3 : Int32} {b0 : Nat} {h : HP} {r : Int32 × HP} (k0 : knd a0 = 8) (kb0 : knd b0 = 8) (e : f_M_rentIf_28 a0 x1 x2 x3 b0 h = some r) : Go l D ad aC (rmk m_M_rentIf) (QM D ad aC m_M_rentIf (.inl (some (.int r.1))) r.2) m_M_rentIf 28 [some (.ref a0), some (.int x1), some (.int x2), some (.int x3)] [.ref b0] h 0 0 := by
  unfold f_M_rentIf_28 at e
  refine Go.run (pc' := 29) [.iconst 1] (ls' := [some (.ref a0), some (.int x1), some (.int x2), some (.int x3)]) (st' := [.int (1 : Int32), .ref b0]) (by decide +kernel) rfl rfl ?_
  exact x_M_rentIf_29 hf hI k0 kb0 e
def f_M_rentIf (h : HP) (a0 : Nat) (x1 : Int32) (x2 : Int32) (x3 : Int32) : Option (Int32 × HP) :=
  (f_M_isDealer h (fld a0 1) x1).bind fun v1 =>
  if v1 = 0 then
    f_M_rentIf_28 a0 x1 x2 x3 a0 h
  else
    (f_M_isMetre h (fld a0 1) x2 x3).bind fun v4 =>
    if v4 = 0 then
      f_M_rentIf_28 a0 x1 x2 x3 a0 h
    else
      f_M_rentIf_29 a0 x1 x2 x3 a0 (0 : Int32) h
set_option maxHeartbeats 1000000 in
theorem x_M_rentIf {l : Launch} {D : va_G} {ad : Nat → Nat} {aC : Nat → ClassId} (hf : l.flags = flags0) (hI : Inj ad) {h : HP} {a0 : Nat} {x1 : Int32} {x2 : Int32} {x3 : Int32} {r : Int32 × HP} (k0 : knd a0 = 8) (e : f_M_rentIf h a0 x1 x2 x3 = some r) : CT l D ad aC m_M_rentIf [.ref a0, .int x1, .int x2, .int x3] h (.inl (some (.int r.1))) r.2 := by
  refine CT.ofGo (by decide +kernel) rfl (Nat.le_of_ble_eq_true rfl) ?_
  unfold f_M_rentIf at e
  show Go l D ad aC (rmk m_M_rentIf) _ m_M_rentIf 0 [some (.ref a0), some (.int x1), some (.int x2), some (.int x3)] [] h 0 0
  refine Go.run (pc' := 2) [.aload_n 0, .aload_n 0] (ls' := [some (.ref a0), some (.int x1), some (.int x2), some (.int x3)]) (st' := [.ref a0, .ref a0]) (by decide +kernel) rfl rfl ?_
  refine Go.getR fo_M_7 k0 (by decide +kernel) ?_
  refine Go.run (pc' := 6) [.iload_n 1] (ls' := [some (.ref a0), some (.int x1), some (.int x2), some (.int x3)]) (st' := [.int x1, .ref (fld a0 1), .ref a0]) (by decide +kernel) rfl rfl ?_
  obtain ⟨v1, e2, e⟩ := bd_inv e
  refine Go.callS (M2 := m_M_isDealer) (as := [.ref (fld a0 1), .int x1]) (rest := [.ref a0]) (v := some (.int v1)) (h1 := h) (x_M_isDealer hf hI (kf_8_j 1 k0 (by decide) (by decide)) (al_8_j 1 k0 (by decide) (by decide) rfl) e2) ws_M_184 (by decide +kernel) rfl rfl ⟨⟨Nat.le_of_ble_eq_true rfl, Nat.le_of_ble_eq_true rfl⟩, ⟨Nat.le_of_ble_eq_true rfl, Nat.le_of_ble_eq_true rfl⟩⟩ (Nat.le_of_ble_eq_true rfl) ?_
  show Go l D ad aC (rmk m_M_rentIf) _ m_M_rentIf 9 [some (.ref a0), some (.int x1), some (.int x2), some (.int x3)] [.int v1, .ref a0] h 0 0
  refine Go.if_eq (off := 19) (tgt := 28) (by decide +kernel) (by decide) (fun c3 => ?_) (fun c3 => ?_)
  · replace e := ite_t c3 e
    exact x_M_rentIf_28 hf hI k0 k0 e
  · replace e := ite_f c3 e
    refine Go.run (pc' := 13) [.aload_n 0] (ls' := [some (.ref a0), some (.int x1), some (.int x2), some (.int x3)]) (st' := [.ref a0, .ref a0]) (by decide +kernel) rfl rfl ?_
    refine Go.getR fo_M_7 k0 (by decide +kernel) ?_
    refine Go.run (pc' := 18) [.iload_n 2, .iload_n 3] (ls' := [some (.ref a0), some (.int x1), some (.int x2), some (.int x3)]) (st' := [.int x3, .int x2, .ref (fld a0 1), .ref a0]) (by decide +kernel) rfl rfl ?_
    obtain ⟨v4, e5, e⟩ := bd_inv e
    refine Go.callS (M2 := m_M_isMetre) (as := [.ref (fld a0 1), .int x2, .int x3]) (rest := [.ref a0]) (v := some (.int v4)) (h1 := h) (x_M_isMetre hf hI (kf_8_j 1 k0 (by decide) (by decide)) (al_8_j 1 k0 (by decide) (by decide) rfl) e5) ws_M_171 (by decide +kernel) rfl rfl ⟨⟨Nat.le_of_ble_eq_true rfl, Nat.le_of_ble_eq_true rfl⟩, ⟨Nat.le_of_ble_eq_true rfl, Nat.le_of_ble_eq_true rfl⟩⟩ (Nat.le_of_ble_eq_true rfl) ?_
    show Go l D ad aC (rmk m_M_rentIf) _ m_M_rentIf 21 [some (.ref a0), some (.int x1), some (.int x2), some (.int x3)] [.int v4, .ref a0] h 0 0
    refine Go.if_eq (off := 7) (tgt := 28) (by decide +kernel) (by decide) (fun c6 => ?_) (fun c6 => ?_)
    · replace e := ite_t c6 e
      exact x_M_rentIf_28 hf hI k0 k0 e
    · replace e := ite_f c6 e
      refine Go.run (pc' := 25) [.iconst 0] (ls' := [some (.ref a0), some (.int x1), some (.int x2), some (.int x3)]) (st' := [.int (0 : Int32), .ref a0]) (by decide +kernel) rfl rfl ?_
      refine Go.goto (off := 4) (tgt := 29) (by decide +kernel) (by decide) ?_
      exact x_M_rentIf_29 hf hI k0 k0 e
def f_M_cheapest_143 (k47_ : Nat → Int32 → Int32 → Int32 → Int32 → Int32 → HP → Option (Int32 × HP)) (k63_ : Nat → Int32 → Int32 → Int32 → Int32 → Int32 → Int32 → HP → Option (Int32 × HP)) (a0 : Nat) (x1 : Int32) (x2 : Int32) (x3 : Int32) (x5 : Int32) (x6 : Int32) (s0 : Int32) (h : HP) : Option (Int32 × HP) :=
  k63_ a0 x1 x2 x3 s0 x5 (x6 + (1 : Int32)) h
set_option maxHeartbeats 1000000 in
theorem x_M_cheapest_143 {l : Launch} {D : va_G} {ad : Nat → Nat} {aC : Nat → ClassId} (hf : l.flags = flags0) (hI : Inj ad) {k47_ : Nat → Int32 → Int32 → Int32 → Int32 → Int32 → HP → Option (Int32 × HP)} {k63_ : Nat → Int32 → Int32 → Int32 → Int32 → Int32 → Int32 → HP → Option (Int32 × HP)} (K47_ : ∀ {a0 : Nat} {x1 : Int32} {x2 : Int32} {x3 : Int32} {x4 : Int32} {x5 : Int32} {h : HP} {r : Int32 × HP}, knd a0 = 8 → k47_ a0 x1 x2 x3 x4 x5 h = some r → Go l D ad aC (rmk m_M_cheapest) (QM D ad aC m_M_cheapest (.inl (some (.int r.1))) r.2) m_M_cheapest 47 [some (.ref a0), some (.int x1), some (.int x2), some (.int x3), some (.int x4), some (.int x5), none, none, none] [] h 0 0) (K63_ : ∀ {a0 : Nat} {x1 : Int32} {x2 : Int32} {x3 : Int32} {x4 : Int32} {x5 : Int32} {x6 : Int32} {h : HP} {r : Int32 × HP}, knd a0 = 8 → k63_ a0 x1 x2 x3 x4 x5 x6 h = some r → Go l D ad aC (rmk m_M_cheapest) (QM D ad aC m_M_cheapest (.inl (some (.int r.1))) r.2) m_M_cheapest 63 [some (.ref a0), some (.int x1), some (.int x2), some (.int x3), some (.int x4), some (.int x5), some (.int x6), none, none] [] h 0 0) {a0 : Nat} {x1 : Int32} {x2 : Int32} {x3 : Int32} {x5 : Int32} {x6 : Int32} {s0 : Int32} {h : HP} {r : Int32 × HP} (k0 : knd a0 = 8) (e : f_M_cheapest_143 k47_ k63_ a0 x1 x2 x3 x5 x6 s0 h = some r) : Go l D ad aC (rmk m_M_cheapest) (QM D ad aC m_M_cheapest (.inl (some (.int r.1))) r.2) m_M_cheapest 143 [some (.ref a0), some (.int x1), some (.int x2), some (.int x3), none, some (.int x5), some (.int x6), none, none] [.int s0] h 0 0 := by
  unfold f_M_cheapest_143 at e
  refine Go.run (pc' := 148) [.istore 4, .iinc 6 (1)] (ls' := [some (.ref a0), some (.int x1), some (.int x2), some (.int x3), some (.int s0), some (.int x5), some (.int (x6 + (1 : Int32))), none, none]) (st' := []) (by decide +kernel) rfl rfl ?_
  refine Go.goto (off := -85) (tgt := 63) (by decide +kernel) (by decide) ?_
  exact K63_ k0 e
def f_M_cheapest_130 (k47_ : Nat → Int32 → Int32 → Int32 → Int32 → Int32 → HP → Option (Int32 × HP)) (k63_ : Nat → Int32 → Int32 → Int32 → Int32 → Int32 → Int32 → HP → Option (Int32 × HP)) (a0 : Nat) (x1 : Int32) (x2 : Int32) (x4 : Int32) (x5 : Int32) (x6 : Int32) (x7 : Int32) (x8 : Int32) (s0 : Int32) (h : HP) : Option (Int32 × HP) :=
  if x8 = 0 then
    f_M_cheapest_143 k47_ k63_ a0 x1 x2 s0 x5 x6 x4 h
  else
    f_M_cheapest_143 k47_ k63_ a0 x1 x2 s0 x5 x6 x7 h
set_option maxHeartbeats 1000000 in
theorem x_M_cheapest_130 {l : Launch} {D : va_G} {ad : Nat → Nat} {aC : Nat → ClassId} (hf : l.flags = flags0) (hI : Inj ad) {k47_ : Nat → Int32 → Int32 → Int32 → Int32 → Int32 → HP → Option (Int32 × HP)} {k63_ : Nat → Int32 → Int32 → Int32 → Int32 → Int32 → Int32 → HP → Option (Int32 × HP)} (K47_ : ∀ {a0 : Nat} {x1 : Int32} {x2 : Int32} {x3 : Int32} {x4 : Int32} {x5 : Int32} {h : HP} {r : Int32 × HP}, knd a0 = 8 → k47_ a0 x1 x2 x3 x4 x5 h = some r → Go l D ad aC (rmk m_M_cheapest) (QM D ad aC m_M_cheapest (.inl (some (.int r.1))) r.2) m_M_cheapest 47 [some (.ref a0), some (.int x1), some (.int x2), some (.int x3), some (.int x4), some (.int x5), none, none, none] [] h 0 0) (K63_ : ∀ {a0 : Nat} {x1 : Int32} {x2 : Int32} {x3 : Int32} {x4 : Int32} {x5 : Int32} {x6 : Int32} {h : HP} {r : Int32 × HP}, knd a0 = 8 → k63_ a0 x1 x2 x3 x4 x5 x6 h = some r → Go l D ad aC (rmk m_M_cheapest) (QM D ad aC m_M_cheapest (.inl (some (.int r.1))) r.2) m_M_cheapest 63 [some (.ref a0), some (.int x1), some (.int x2), some (.int x3), some (.int x4), some (.int x5), some (.int x6), none, none] [] h 0 0) {a0 : Nat} {x1 : Int32} {x2 : Int32} {x4 : Int32} {x5 : Int32} {x6 : Int32} {x7 : Int32} {x8 : Int32} {s0 : Int32} {h : HP} {r : Int32 × HP} (k0 : knd a0 = 8) (e : f_M_cheapest_130 k47_ k63_ a0 x1 x2 x4 x5 x6 x7 x8 s0 h = some r) : Go l D ad aC (rmk m_M_cheapest) (QM D ad aC m_M_cheapest (.inl (some (.int r.1))) r.2) m_M_cheapest 130 [some (.ref a0), some (.int x1), some (.int x2), none, some (.int x4), some (.int x5), some (.int x6), some (.int x7), some (.int x8)] [.int s0] h 0 0 := by
  unfold f_M_cheapest_130 at e
  refine Go.run (pc' := 133) [.istore_n 3, .iload 8] (ls' := [some (.ref a0), some (.int x1), some (.int x2), some (.int s0), some (.int x4), some (.int x5), some (.int x6), some (.int x7), some (.int x8)]) (st' := [.int x8]) (by decide +kernel) rfl rfl ?_
  refine Go.if_eq (off := 8) (tgt := 141) (by decide +kernel) (by decide) (fun c1 => ?_) (fun c1 => ?_)
  · replace e := ite_t c1 e
    refine Go.run (pc' := 143) [.iload 4] (ls' := [some (.ref a0), some (.int x1), some (.int x2), some (.int s0), some (.int x4), some (.int x5), some (.int x6), some (.int x7), some (.int x8)]) (st' := [.int x4]) (by decide +kernel) rfl rfl ?_
    refine Go.wk' (wks (wks (wks (wks (wkn (wks (wks (wkn (wkn wk0))))))))) ?_
    exact x_M_cheapest_143 hf hI K47_ K63_ k0 e
  · replace e := ite_f c1 e
    refine Go.run (pc' := 138) [.iload 7] (ls' := [some (.ref a0), some (.int x1), some (.int x2), some (.int s0), some (.int x4), some (.int x5), some (.int x6), some (.int x7), some (.int x8)]) (st' := [.int x7]) (by decide +kernel) rfl rfl ?_
    refine Go.goto (off := 5) (tgt := 143) (by decide +kernel) (by decide) ?_
    refine Go.wk' (wks (wks (wks (wks (wkn (wks (wks (wkn (wkn wk0))))))))) ?_
    exact x_M_cheapest_143 hf hI K47_ K63_ k0 e
def f_M_cheapest_111 (k47_ : Nat → Int32 → Int32 → Int32 → Int32 → Int32 → HP → Option (Int32 × HP)) (k63_ : Nat → Int32 → Int32 → Int32 → Int32 → Int32 → Int32 → HP → Option (Int32 × HP)) (a0 : Nat) (x1 : Int32) (x2 : Int32) (x3 : Int32) (x4 : Int32) (x5 : Int32) (x6 : Int32) (x7 : Int32) (s0 : Int32) (h : HP) : Option (Int32 × HP) :=
  if s0 = 0 then
    f_M_cheapest_130 k47_ k63_ a0 x1 x2 x4 x5 x6 x7 s0 x3 h
  else
    f_M_cheapest_130 k47_ k63_ a0 x1 x2 x4 x5 x6 x7 s0 (((100 : Int32) * x5) + x6) h
set_option maxHeartbeats 1000000 in
theorem x_M_cheapest_111 {l : Launch} {D : va_G} {ad : Nat → Nat} {aC : Nat → ClassId} (hf : l.flags = flags0) (hI : Inj ad) {k47_ : Nat → Int32 → Int32 → Int32 → Int32 → Int32 → HP → Option (Int32 × HP)} {k63_ : Nat → Int32 → Int32 → Int32 → Int32 → Int32 → Int32 → HP → Option (Int32 × HP)} (K47_ : ∀ {a0 : Nat} {x1 : Int32} {x2 : Int32} {x3 : Int32} {x4 : Int32} {x5 : Int32} {h : HP} {r : Int32 × HP}, knd a0 = 8 → k47_ a0 x1 x2 x3 x4 x5 h = some r → Go l D ad aC (rmk m_M_cheapest) (QM D ad aC m_M_cheapest (.inl (some (.int r.1))) r.2) m_M_cheapest 47 [some (.ref a0), some (.int x1), some (.int x2), some (.int x3), some (.int x4), some (.int x5), none, none, none] [] h 0 0) (K63_ : ∀ {a0 : Nat} {x1 : Int32} {x2 : Int32} {x3 : Int32} {x4 : Int32} {x5 : Int32} {x6 : Int32} {h : HP} {r : Int32 × HP}, knd a0 = 8 → k63_ a0 x1 x2 x3 x4 x5 x6 h = some r → Go l D ad aC (rmk m_M_cheapest) (QM D ad aC m_M_cheapest (.inl (some (.int r.1))) r.2) m_M_cheapest 63 [some (.ref a0), some (.int x1), some (.int x2), some (.int x3), some (.int x4), some (.int x5), some (.int x6), none, none] [] h 0 0) {a0 : Nat} {x1 : Int32} {x2 : Int32} {x3 : Int32} {x4 : Int32} {x5 : Int32} {x6 : Int32} {x7 : Int32} {s0 : Int32} {h : HP} {r : Int32 × HP} (k0 : knd a0 = 8) (e : f_M_cheapest_111 k47_ k63_ a0 x1 x2 x3 x4 x5 x6 x7 s0 h = some r) : Go l D ad aC (rmk m_M_cheapest) (QM D ad aC m_M_cheapest (.inl (some (.int r.1))) r.2) m_M_cheapest 111 [some (.ref a0), some (.int x1), some (.int x2), some (.int x3), some (.int x4), some (.int x5), some (.int x6), some (.int x7), none] [.int s0] h 0 0 := by
  unfold f_M_cheapest_111 at e
  refine Go.run (pc' := 115) [.istore 8, .iload 8] (ls' := [some (.ref a0), some (.int x1), some (.int x2), some (.int x3), some (.int x4), some (.int x5), some (.int x6), some (.int x7), some (.int s0)]) (st' := [.int s0]) (by decide +kernel) rfl rfl ?_
  refine Go.if_eq (off := 14) (tgt := 129) (by decide +kernel) (by decide) (fun c1 => ?_) (fun c1 => ?_)
  · replace e := ite_t c1 e
    refine Go.run (pc' := 130) [.iload_n 3] (ls' := [some (.ref a0), some (.int x1), some (.int x2), some (.int x3), some (.int x4), some (.int x5), some (.int x6), some (.int x7), some (.int s0)]) (st' := [.int x3]) (by decide +kernel) rfl rfl ?_
    refine Go.wk' (wks (wks (wks (wkn (wks (wks (wks (wks (wks wk0))))))))) ?_
    exact x_M_cheapest_130 hf hI K47_ K63_ k0 e
  · replace e := ite_f c1 e
    refine Go.run (pc' := 126) [.bipush (100), .iload 5, .imul, .iload 6, .iadd] (ls' := [some (.ref a0), some (.int x1), some (.int x2), some (.int x3), some (.int x4), some (.int x5), some (.int x6), some (.int x7), some (.int s0)]) (st' := [.int (((100 : Int32) * x5) + x6)]) (by decide +kernel) rfl rfl ?_
    refine Go.goto (off := 4) (tgt := 130) (by decide +kernel) (by decide) ?_
    refine Go.wk' (wks (wks (wks (wkn (wks (wks (wks (wks (wks wk0))))))))) ?_
    exact x_M_cheapest_130 hf hI K47_ K63_ k0 e
def f_M_cheapest_110 (k47_ : Nat → Int32 → Int32 → Int32 → Int32 → Int32 → HP → Option (Int32 × HP)) (k63_ : Nat → Int32 → Int32 → Int32 → Int32 → Int32 → Int32 → HP → Option (Int32 × HP)) (a0 : Nat) (x1 : Int32) (x2 : Int32) (x3 : Int32) (x4 : Int32) (x5 : Int32) (x6 : Int32) (x7 : Int32) (h : HP) : Option (Int32 × HP) :=
  f_M_cheapest_111 k47_ k63_ a0 x1 x2 x3 x4 x5 x6 x7 (0 : Int32) h
set_option maxHeartbeats 1000000 in
theorem x_M_cheapest_110 {l : Launch} {D : va_G} {ad : Nat → Nat} {aC : Nat → ClassId} (hf : l.flags = flags0) (hI : Inj ad) {k47_ : Nat → Int32 → Int32 → Int32 → Int32 → Int32 → HP → Option (Int32 × HP)} {k63_ : Nat → Int32 → Int32 → Int32 → Int32 → Int32 → Int32 → HP → Option (Int32 × HP)} (K47_ : ∀ {a0 : Nat} {x1 : Int32} {x2 : Int32} {x3 : Int32} {x4 : Int32} {x5 : Int32} {h : HP} {r : Int32 × HP}, knd a0 = 8 → k47_ a0 x1 x2 x3 x4 x5 h = some r → Go l D ad aC (rmk m_M_cheapest) (QM D ad aC m_M_cheapest (.inl (some (.int r.1))) r.2) m_M_cheapest 47 [some (.ref a0), some (.int x1), some (.int x2), some (.int x3), some (.int x4), some (.int x5), none, none, none] [] h 0 0) (K63_ : ∀ {a0 : Nat} {x1 : Int32} {x2 : Int32} {x3 : Int32} {x4 : Int32} {x5 : Int32} {x6 : Int32} {h : HP} {r : Int32 × HP}, knd a0 = 8 → k63_ a0 x1 x2 x3 x4 x5 x6 h = some r → Go l D ad aC (rmk m_M_cheapest) (QM D ad aC m_M_cheapest (.inl (some (.int r.1))) r.2) m_M_cheapest 63 [some (.ref a0), some (.int x1), some (.int x2), some (.int x3), some (.int x4), some (.int x5), some (.int x6), none, none] [] h 0 0) {a0 : Nat} {x1 : Int32} {x2 : Int32} {x3 : Int32} {x4 : Int32} {x5 : Int32} {x6 : Int32} {x7 : Int32} {h : HP} {r : Int32 × HP} (k0 : knd a0 = 8) (e : f_M_cheapest_110 k47_ k63_ a0 x1 x2 x3 x4 x5 x6 x7 h = some r) : Go l D ad aC (rmk m_M_cheapest) (QM D ad aC m_M_cheapest (.inl (some (.int r.1))) r.2) m_M_cheapest 110 [some (.ref a0), some (.int x1), some (.int x2), some (.int x3), some (.int x4), some (.int x5), some (.int x6), some (.int x7), none] [] h 0 0 := by
  unfold f_M_cheapest_110 at e
  refine Go.run (pc' := 111) [.iconst 0] (ls' := [some (.ref a0), some (.int x1), some (.int x2), some (.int x3), some (.int x4), some (.int x5), some (.int x6), some (.int x7), none]) (st' := [.int (0 : Int32)]) (by decide +kernel) rfl rfl ?_
  exact x_M_cheapest_111 hf hI K47_ K63_ k0 e
def f_M_cheapest_106 (k47_ : Nat → Int32 → Int32 → Int32 → Int32 → Int32 → HP → Option (Int32 × HP)) (k63_ : Nat → Int32 → Int32 → Int32 → Int32 → Int32 → Int32 → HP → Option (Int32 × HP)) (a0 : Nat) (x1 : Int32) (x2 : Int32) (x3 : Int32) (x4 : Int32) (x5 : Int32) (x6 : Int32) (x7 : Int32) (h : HP) : Option (Int32 × HP) :=
  f_M_cheapest_111 k47_ k63_ a0 x1 x2 x3 x4 x5 x6 x7 (1 : Int32) h
set_option maxHeartbeats 1000000 in
theorem x_M_cheapest_106 {l : Launch} {D : va_G} {ad : Nat → Nat} {aC : Nat → ClassId} (hf : l.flags = flags0) (hI : Inj ad) {k47_ : Nat → Int32 → Int32 → Int32 → Int32 → Int32 → HP → Option (Int32 × HP)} {k63_ : Nat → Int32 → Int32 → Int32 → Int32 → Int32 → Int32 → HP → Option (Int32 × HP)} (K47_ : ∀ {a0 : Nat} {x1 : Int32} {x2 : Int32} {x3 : Int32} {x4 : Int32} {x5 : Int32} {h : HP} {r : Int32 × HP}, knd a0 = 8 → k47_ a0 x1 x2 x3 x4 x5 h = some r → Go l D ad aC (rmk m_M_cheapest) (QM D ad aC m_M_cheapest (.inl (some (.int r.1))) r.2) m_M_cheapest 47 [some (.ref a0), some (.int x1), some (.int x2), some (.int x3), some (.int x4), some (.int x5), none, none, none] [] h 0 0) (K63_ : ∀ {a0 : Nat} {x1 : Int32} {x2 : Int32} {x3 : Int32} {x4 : Int32} {x5 : Int32} {x6 : Int32} {h : HP} {r : Int32 × HP}, knd a0 = 8 → k63_ a0 x1 x2 x3 x4 x5 x6 h = some r → Go l D ad aC (rmk m_M_cheapest) (QM D ad aC m_M_cheapest (.inl (some (.int r.1))) r.2) m_M_cheapest 63 [some (.ref a0), some (.int x1), some (.int x2), some (.int x3), some (.int x4), some (.int x5), some (.int x6), none, none] [] h 0 0) {a0 : Nat} {x1 : Int32} {x2 : Int32} {x3 : Int32} {x4 : Int32} {x5 : Int32} {x6 : Int32} {x7 : Int32} {h : HP} {r : Int32 × HP} (k0 : knd a0 = 8) (e : f_M_cheapest_106 k47_ k63_ a0 x1 x2 x3 x4 x5 x6 x7 h = some r) : Go l D ad aC (rmk m_M_cheapest) (QM D ad aC m_M_cheapest (.inl (some (.int r.1))) r.2) m_M_cheapest 106 [some (.ref a0), some (.int x1), some (.int x2), some (.int x3), some (.int x4), some (.int x5), some (.int x6), some (.int x7), none] [] h 0 0 := by
  unfold f_M_cheapest_106 at e
  refine Go.run (pc' := 107) [.iconst 1] (ls' := [some (.ref a0), some (.int x1), some (.int x2), some (.int x3), some (.int x4), some (.int x5), some (.int x6), some (.int x7), none]) (st' := [.int (1 : Int32)]) (by decide +kernel) rfl rfl ?_
  refine Go.goto (off := 4) (tgt := 111) (by decide +kernel) (by decide) ?_
  exact x_M_cheapest_111 hf hI K47_ K63_ k0 e
def f_M_cheapest_63 (k47_ : Nat → Int32 → Int32 → Int32 → Int32 → Int32 → HP → Option (Int32 × HP)) : Nat → Nat → Int32 → Int32 → Int32 → Int32 → Int32 → Int32 → HP → Option (Int32 × HP)
  | 0, _, _, _, _, _, _, _, _ => none
  | n + 1, a0, x1, x2, x3, x4, x5, x6, h =>
    (f_M_size h (fld a0 1) x5).bind fun v1 =>
    if v1 ≤ x6 then
      k47_ a0 x1 x2 x3 x4 (x5 + (1 : Int32)) h
    else
      (f_M_rentAt h a0 x1 x5 x6).bind fun v4 =>
      if v4.1 = (-1 : Int32) then
        f_M_cheapest_110 k47_ (f_M_cheapest_63 k47_ n) a0 x1 x2 x3 x4 x5 x6 v4.1 v4.2
      else
        if x3 = (-1 : Int32) then
          f_M_cheapest_106 k47_ (f_M_cheapest_63 k47_ n) a0 x1 x2 x3 x4 x5 x6 v4.1 v4.2
        else
          if x4 ≤ v4.1 then
            f_M_cheapest_110 k47_ (f_M_cheapest_63 k47_ n) a0 x1 x2 x3 x4 x5 x6 v4.1 v4.2
          else
            f_M_cheapest_106 k47_ (f_M_cheapest_63 k47_ n) a0 x1 x2 x3 x4 x5 x6 v4.1 v4.2
set_option maxHeartbeats 1000000 in
theorem x_M_cheapest_63 {l : Launch} {D : va_G} {ad : Nat → Nat} {aC : Nat → ClassId} (hf : l.flags = flags0) (hI : Inj ad) {k47_ : Nat → Int32 → Int32 → Int32 → Int32 → Int32 → HP → Option (Int32 × HP)} (K47_ : ∀ {a0 : Nat} {x1 : Int32} {x2 : Int32} {x3 : Int32} {x4 : Int32} {x5 : Int32} {h : HP} {r : Int32 × HP}, knd a0 = 8 → k47_ a0 x1 x2 x3 x4 x5 h = some r → Go l D ad aC (rmk m_M_cheapest) (QM D ad aC m_M_cheapest (.inl (some (.int r.1))) r.2) m_M_cheapest 47 [some (.ref a0), some (.int x1), some (.int x2), some (.int x3), some (.int x4), some (.int x5), none, none, none] [] h 0 0) : ∀ (n : Nat) {a0 : Nat} {x1 : Int32} {x2 : Int32} {x3 : Int32} {x4 : Int32} {x5 : Int32} {x6 : Int32} {h : HP} {r : Int32 × HP}, knd a0 = 8 → f_M_cheapest_63 k47_ n a0 x1 x2 x3 x4 x5 x6 h = some r → Go l D ad aC (rmk m_M_cheapest) (QM D ad aC m_M_cheapest (.inl (some (.int r.1))) r.2) m_M_cheapest 63 [some (.ref a0), some (.int x1), some (.int x2), some (.int x3), some (.int x4), some (.int x5), some (.int x6), none, none] [] h 0 0 := by
  intro n
  induction n with
  | zero => intro a0 x1 x2 x3 x4 x5 x6 h r k0 e; exact no_none e
  | succ n ih =>
    intro a0 x1 x2 x3 x4 x5 x6 h r k0 e
    rw [f_M_cheapest_63] at e
    refine Go.run (pc' := 66) [.iload 6, .aload_n 0] (ls' := [some (.ref a0), some (.int x1), some (.int x2), some (.int x3), some (.int x4), some (.int x5), some (.int x6), none, none]) (st' := [.ref a0, .int x6]) (by decide +kernel) rfl rfl ?_
    refine Go.getR fo_M_7 k0 (by decide +kernel) ?_
    refine Go.run (pc' := 71) [.iload 5] (ls' := [some (.ref a0), some (.int x1), some (.int x2), some (.int x3), some (.int x4), some (.int x5), some (.int x6), none, none]) (st' := [.int x5, .ref (fld a0 1), .int x6]) (by decide +kernel) rfl rfl ?_
    obtain ⟨v1, e2, e⟩ := bd_inv e
    refine Go.callS (M2 := m_M_size) (as := [.ref (fld a0 1), .int x5]) (rest := [.int x6]) (v := some (.int v1)) (h1 := h) (x_M_size hf hI (kf_8_j 1 k0 (by decide) (by decide)) (al_8_j 1 k0 (by decide) (by decide) rfl) e2) ws_M_75 (by decide +kernel) rfl rfl ⟨⟨Nat.le_of_ble_eq_true rfl, Nat.le_of_ble_eq_true rfl⟩, ⟨Nat.le_of_ble_eq_true rfl, Nat.le_of_ble_eq_true rfl⟩⟩ (Nat.le_of_ble_eq_true rfl) ?_
    show Go l D ad aC (rmk m_M_cheapest) _ m_M_cheapest 74 [some (.ref a0), some (.int x1), some (.int x2), some (.int x3), some (.int x4), some (.int x5), some (.int x6), none, none] [.int v1, .int x6] h 0 0
    refine Go.ic_ge (off := 77) (tgt := 151) (by decide +kernel) (by decide) (fun c3 => ?_) (fun c3 => ?_)
    · replace e := ite_t c3 e
      refine Go.run (pc' := 154) [.iinc 5 (1)] (ls' := [some (.ref a0), some (.int x1), some (.int x2), some (.int x3), some (.int x4), some (.int (x5 + (1 : Int32))), some (.int x6), none, none]) (st' := []) (by decide +kernel) rfl rfl ?_
      refine Go.goto (off := -107) (tgt := 47) (by decide +kernel) (by decide) ?_
      refine Go.wk' (wks (wks (wks (wks (wks (wks (wkn (wks (wks wk0))))))))) ?_
      exact K47_ k0 e
    · replace e := ite_f c3 e
      refine Go.run (pc' := 83) [.aload_n 0, .iload_n 1, .iload 5, .iload 6] (ls' := [some (.ref a0), some (.int x1), some (.int x2), some (.int x3), some (.int x4), some (.int x5), some (.int x6), none, none]) (st' := [.int x6, .int x5, .int x1, .ref a0]) (by decide +kernel) rfl rfl ?_
      obtain ⟨v4, e5, e⟩ := bd_inv e
      refine Go.callV (M2 := m_M_rentAt) (a := a0) (as := [.int x1, .int x5, .int x6]) (rest := []) (v := some (.int v4.1)) (h1 := v4.2) (x_M_rentAt hf hI k0 e5) wv_M_280 k0 kc_8 (by decide +kernel) rfl rfl ⟨⟨Nat.le_of_ble_eq_true rfl, Nat.le_of_ble_eq_true rfl⟩, ⟨Nat.le_of_ble_eq_true rfl, Nat.le_of_ble_eq_true rfl⟩⟩ (Nat.le_of_ble_eq_true rfl) ?_
      show Go l D ad aC (rmk m_M_cheapest) _ m_M_cheapest 86 [some (.ref a0), some (.int x1), some (.int x2), some (.int x3), some (.int x4), some (.int x5), some (.int x6), none, none] [.int v4.1] v4.2 0 0
      refine Go.run (pc' := 91) [.istore 7, .iload 7, .iconst (-1)] (ls' := [some (.ref a0), some (.int x1), some (.int x2), some (.int x3), some (.int x4), some (.int x5), some (.int x6), some (.int v4.1), none]) (st' := [.int (-1 : Int32), .int v4.1]) (by decide +kernel) rfl rfl ?_
      refine Go.ic_eq (off := 19) (tgt := 110) (by decide +kernel) (by decide) (fun c6 => ?_) (fun c6 => ?_)
      · replace e := ite_t c6 e
        exact x_M_cheapest_110 hf hI K47_ (fun kk0 e => ih kk0 e) k0 e
      · replace e := ite_f c6 e
        refine Go.run (pc' := 96) [.iload_n 3, .iconst (-1)] (ls' := [some (.ref a0), some (.int x1), some (.int x2), some (.int x3), some (.int x4), some (.int x5), some (.int x6), some (.int v4.1), none]) (st' := [.int (-1 : Int32), .int x3]) (by decide +kernel) rfl rfl ?_
        refine Go.ic_eq (off := 10) (tgt := 106) (by decide +kernel) (by decide) (fun c7 => ?_) (fun c7 => ?_)
        · replace e := ite_t c7 e
          exact x_M_cheapest_106 hf hI K47_ (fun kk0 e => ih kk0 e) k0 e
        · replace e := ite_f c7 e
          refine Go.run (pc' := 103) [.iload 7, .iload 4] (ls' := [some (.ref a0), some (.int x1), some (.int x2), some (.int x3), some (.int x4), some (.int x5), some (.int x6), some (.int v4.1), none]) (st' := [.int x4, .int v4.1]) (by decide +kernel) rfl rfl ?_
          refine Go.ic_ge (off := 7) (tgt := 110) (by decide +kernel) (by decide) (fun c8 => ?_) (fun c8 => ?_)
          · replace e := ite_t c8 e
            exact x_M_cheapest_110 hf hI K47_ (fun kk0 e => ih kk0 e) k0 e
          · replace e := ite_f c8 e
            exact x_M_cheapest_106 hf hI K47_ (fun kk0 e => ih kk0 e) k0 e
def f_M_cheapest_47  : Nat → Nat → Int32 → Int32 → Int32 → Int32 → Int32 → HP → Option (Int32 × HP)
  | 0, _, _, _, _, _, _, _ => none
  | n + 1, a0, x1, x2, x3, x4, x5, h =>
    if ib (184 : Int32) 196 = true then
    if (h (fld a0 1) (184 : Int32).toNatClampNeg) ≤ x5 then
      if x2 = 0 then
        some (x3, h)
      else
        some (x4, h)
    else
      f_M_cheapest_63 (f_M_cheapest_47 n) 4096 a0 x1 x2 x3 x4 x5 (0 : Int32) h
    else none
set_option maxHeartbeats 1000000 in
theorem x_M_cheapest_47 {l : Launch} {D : va_G} {ad : Nat → Nat} {aC : Nat → ClassId} (hf : l.flags = flags0) (hI : Inj ad) : ∀ (n : Nat) {a0 : Nat} {x1 : Int32} {x2 : Int32} {x3 : Int32} {x4 : Int32} {x5 : Int32} {h : HP} {r : Int32 × HP}, knd a0 = 8 → f_M_cheapest_47 n a0 x1 x2 x3 x4 x5 h = some r → Go l D ad aC (rmk m_M_cheapest) (QM D ad aC m_M_cheapest (.inl (some (.int r.1))) r.2) m_M_cheapest 47 [some (.ref a0), some (.int x1), some (.int x2), some (.int x3), some (.int x4), some (.int x5), none, none, none] [] h 0 0 := by
  intro n
  induction n with
  | zero => intro a0 x1 x2 x3 x4 x5 h r k0 e; exact no_none e
  | succ n ih =>
    intro a0 x1 x2 x3 x4 x5 h r k0 e
    rw [f_M_cheapest_47] at e
    refine Go.run (pc' := 50) [.iload 5, .aload_n 0] (ls' := [some (.ref a0), some (.int x1), some (.int x2), some (.int x3), some (.int x4), some (.int x5), none, none, none]) (st' := [.ref a0, .int x5]) (by decide +kernel) rfl rfl ?_
    refine Go.getR fo_M_7 k0 (by decide +kernel) ?_
    refine Go.run (pc' := 56) [.sipush (184)] (ls' := [some (.ref a0), some (.int x1), some (.int x2), some (.int x3), some (.int x4), some (.int x5), none, none, none]) (st' := [.int (184 : Int32), .ref (fld a0 1), .int x5]) (by decide +kernel) rfl rfl ?_
    obtain ⟨g1, e⟩ := gd_inv e
    refine Go.iald (kf_8_j 1 k0 (by decide) (by decide)) (al_8_j 1 k0 (by decide) (by decide) rfl) g1 (by decide +kernel) ?_
    refine Go.ic_ge (off := 100) (tgt := 157) (by decide +kernel) (by decide) (fun c2 => ?_) (fun c2 => ?_)
    · replace e := ite_t c2 e
      refine Go.run (pc' := 158) [.iload_n 2] (ls' := [some (.ref a0), some (.int x1), some (.int x2), some (.int x3), some (.int x4), some (.int x5), none, none, none]) (st' := [.int x2]) (by decide +kernel) rfl rfl ?_
      refine Go.if_ne (off := 7) (tgt := 165) (by decide +kernel) (by decide) (fun c3 => ?_) (fun c3 => ?_)
      · replace e := ite_f c3 e
        refine Go.run (pc' := 167) [.iload 4] (ls' := [some (.ref a0), some (.int x1), some (.int x2), some (.int x3), some (.int x4), some (.int x5), none, none, none]) (st' := [.int x4]) (by decide +kernel) rfl rfl ?_
        obtain rfl := Option.some.inj e
        exact Go.iret rfl (by decide) (by decide) (by decide +kernel)
      · replace e := ite_t c3 e
        refine Go.run (pc' := 162) [.iload_n 3] (ls' := [some (.ref a0), some (.int x1), some (.int x2), some (.int x3), some (.int x4), some (.int x5), none, none, none]) (st' := [.int x3]) (by decide +kernel) rfl rfl ?_
        refine Go.goto (off := 5) (tgt := 167) (by decide +kernel) (by decide) ?_
        obtain rfl := Option.some.inj e
        exact Go.iret rfl (by decide) (by decide) (by decide +kernel)
    · replace e := ite_f c2 e
      refine Go.run (pc' := 63) [.iconst 0, .istore 6] (ls' := [some (.ref a0), some (.int x1), some (.int x2), some (.int x3), some (.int x4), some (.int x5), some (.int (0 : Int32)), none, none]) (st' := []) (by decide +kernel) rfl rfl ?_
      exact x_M_cheapest_63 hf hI (fun kk0 e => ih kk0 e) 4096 k0 e
def f_M_cheapest_31  (a0 : Nat) (x1 : Int32) (x2 : Int32) (b0 : Nat) (s1 : Int32) (h : HP) : Option (Int32 × HP) :=
  (f_M_refused h b0 s1).bind fun v1 =>
  if v1.1 = 0 then
    f_M_cheapest_47 4096 a0 x1 x2 (-1 : Int32) (-1 : Int32) (0 : Int32) v1.2
  else
    some ((0 : Int32), v1.2)
set_option maxHeartbeats 1000000 in
theorem x_M_cheapest_31 {l : Launch} {D : va_G} {ad : Nat → Nat} {aC : Nat → ClassId} (hf : l.flags = flags0) (hI : Inj ad) {a0 : Nat} {x1 : Int32} {x2 : Int32} {b0 : Nat} {s1 : Int32} {h : HP} {r : Int32 × HP} (k0 : knd a0 = 8) (kb0 : knd b0 = 8) (e : f_M_cheapest_31 a0 x1 x2 b0 s1 h = some r) : Go l D ad aC (rmk m_M_cheapest) (QM D ad aC m_M_cheapest (.inl (some (.int r.1))) r.2) m_M_cheapest 31 [some (.ref a0), some (.int x1), some (.int x2), none, none, none, none, none, none] [.int s1, .ref b0] h 0 0 := by
  unfold f_M_cheapest_31 at e
  obtain ⟨v1, e2, e⟩ := bd_inv e
  refine Go.callV (M2 := m_M_refused) (a := b0) (as := [.int s1]) (rest := []) (v := some (.int v1.1)) (h1 := v1.2) (x_M_refused hf hI kb0 e2) wv_M_142 kb0 kc_8 (by decide +kernel) rfl rfl ⟨⟨Nat.le_of_ble_eq_true rfl, Nat.le_of_ble_eq_true rfl⟩, ⟨Nat.le_of_ble_eq_true rfl, Nat.le_of_ble_eq_true rfl⟩⟩ (Nat.le_of_ble_eq_true rfl) ?_
  show Go l D ad aC (rmk m_M_cheapest) _ m_M_cheapest 34 [some (.ref a0), some (.int x1), some (.int x2), none, none, none, none, none, none] [.int v1.1] v1.2 0 0
  refine Go.if_eq (off := 5) (tgt := 39) (by decide +kernel) (by decide) (fun c3 => ?_) (fun c3 => ?_)
  · replace e := ite_t c3 e
    refine Go.run (pc' := 47) [.iconst (-1), .istore_n 3, .iconst (-1), .istore 4, .iconst 0, .istore 5] (ls' := [some (.ref a0), some (.int x1), some (.int x2), some (.int (-1 : Int32)), some (.int (-1 : Int32)), some (.int (0 : Int32)), none, none, none]) (st' := []) (by decide +kernel) rfl rfl ?_
    exact x_M_cheapest_47 hf hI 4096 k0 e
  · replace e := ite_f c3 e
    refine Go.run (pc' := 38) [.iconst 0] (ls' := [some (.ref a0), some (.int x1), some (.int x2), none, none, none, none, none, none]) (st' := [.int (0 : Int32)]) (by decide +kernel) rfl rfl ?_
    obtain rfl := Option.some.inj e
    exact Go.iret rfl (by decide) (by decide) (by decide +kernel)
def f_M_cheapest (h : HP) (a0 : Nat) (x1 : Int32) (x2 : Int32) : Option (Int32 × HP) :=
  (f_M_isDealer h (fld a0 1) x1).bind fun v1 =>
  if v1 = 0 then
    f_M_cheapest_31 a0 x1 x2 a0 (1 : Int32) h
  else
    (f_M_in h x2.toInt64 (0 : Int64) (1 : Int64)).bind fun v4 =>
    if v4 = 0 then
      f_M_cheapest_31 a0 x1 x2 a0 (2 : Int32) h
    else
      f_M_cheapest_31 a0 x1 x2 a0 (0 : Int32) h
set_option maxHeartbeats 1000000 in
theorem x_M_cheapest {l : Launch} {D : va_G} {ad : Nat → Nat} {aC : Nat → ClassId} (hf : l.flags = flags0) (hI : Inj ad) {h : HP} {a0 : Nat} {x1 : Int32} {x2 : Int32} {r : Int32 × HP} (k0 : knd a0 = 8) (e : f_M_cheapest h a0 x1 x2 = some r) : CT l D ad aC m_M_cheapest [.ref a0, .int x1, .int x2] h (.inl (some (.int r.1))) r.2 := by
  refine CT.ofGo (by decide +kernel) rfl (Nat.le_of_ble_eq_true rfl) ?_
  unfold f_M_cheapest at e
  show Go l D ad aC (rmk m_M_cheapest) _ m_M_cheapest 0 [some (.ref a0), some (.int x1), some (.int x2), none, none, none, none, none, none] [] h 0 0
  refine Go.run (pc' := 2) [.aload_n 0, .aload_n 0] (ls' := [some (.ref a0), some (.int x1), some (.int x2), none, none, none, none, none, none]) (st' := [.ref a0, .ref a0]) (by decide +kernel) rfl rfl ?_
  refine Go.getR fo_M_7 k0 (by decide +kernel) ?_
  refine Go.run (pc' := 6) [.iload_n 1] (ls' := [some (.ref a0), some (.int x1), some (.int x2), none, none, none, none, none, none]) (st' := [.int x1, .ref (fld a0 1), .ref a0]) (by decide +kernel) rfl rfl ?_
  obtain ⟨v1, e2, e⟩ := bd_inv e
  refine Go.callS (M2 := m_M_isDealer) (as := [.ref (fld a0 1), .int x1]) (rest := [.ref a0]) (v := some (.int v1)) (h1 := h) (x_M_isDealer hf hI (kf_8_j 1 k0 (by decide) (by decide)) (al_8_j 1 k0 (by decide) (by decide) rfl) e2) ws_M_184 (by decide +kernel) rfl rfl ⟨⟨Nat.le_of_ble_eq_true rfl, Nat.le_of_ble_eq_true rfl⟩, ⟨Nat.le_of_ble_eq_true rfl, Nat.le_of_ble_eq_true rfl⟩⟩ (Nat.le_of_ble_eq_true rfl) ?_
  show Go l D ad aC (rmk m_M_cheapest) _ m_M_cheapest 9 [some (.ref a0), some (.int x1), some (.int x2), none, none, none, none, none, none] [.int v1, .ref a0] h 0 0
  refine Go.if_ne (off := 7) (tgt := 16) (by decide +kernel) (by decide) (fun c3 => ?_) (fun c3 => ?_)
  · replace e := ite_f c3 e
    refine Go.run (pc' := 20) [.iload_n 2, .i2l, .lconst 0, .lconst 1] (ls' := [some (.ref a0), some (.int x1), some (.int x2), none, none, none, none, none, none]) (st' := [.long (1 : Int64), .long (0 : Int64), .long x2.toInt64, .ref a0]) (by decide +kernel) rfl rfl ?_
    obtain ⟨v4, e5, e⟩ := bd_inv e
    refine Go.callS (M2 := m_M_in) (as := [.long x2.toInt64, .long (0 : Int64), .long (1 : Int64)]) (rest := [.ref a0]) (v := some (.int v4)) (h1 := h) (x_M_in hf hI  e5) ws_M_51 (by decide +kernel) rfl rfl ⟨⟨Nat.le_of_ble_eq_true rfl, Nat.le_of_ble_eq_true rfl⟩, ⟨Nat.le_of_ble_eq_true rfl, Nat.le_of_ble_eq_true rfl⟩⟩ (Nat.le_of_ble_eq_true rfl) ?_
    show Go l D ad aC (rmk m_M_cheapest) _ m_M_cheapest 23 [some (.ref a0), some (.int x1), some (.int x2), none, none, none, none, none, none] [.int v4, .ref a0] h 0 0
    refine Go.if_ne (off := 7) (tgt := 30) (by decide +kernel) (by decide) (fun c6 => ?_) (fun c6 => ?_)
    · replace e := ite_f c6 e
      refine Go.run (pc' := 31) [.iconst 0] (ls' := [some (.ref a0), some (.int x1), some (.int x2), none, none, none, none, none, none]) (st' := [.int (0 : Int32), .ref a0]) (by decide +kernel) rfl rfl ?_
      exact x_M_cheapest_31 hf hI k0 k0 e
    · replace e := ite_t c6 e
      refine Go.run (pc' := 27) [.iconst 2] (ls' := [some (.ref a0), some (.int x1), some (.int x2), none, none, none, none, none, none]) (st' := [.int (2 : Int32), .ref a0]) (by decide +kernel) rfl rfl ?_
      refine Go.goto (off := 4) (tgt := 31) (by decide +kernel) (by decide) ?_
      exact x_M_cheapest_31 hf hI k0 k0 e
  · replace e := ite_t c3 e
    refine Go.run (pc' := 13) [.iconst 1] (ls' := [some (.ref a0), some (.int x1), some (.int x2), none, none, none, none, none, none]) (st' := [.int (1 : Int32), .ref a0]) (by decide +kernel) rfl rfl ?_
    refine Go.goto (off := 18) (tgt := 31) (by decide +kernel) (by decide) ?_
    exact x_M_cheapest_31 hf hI k0 k0 e
def f_M_bestSwap_148 (k38_ : Nat → Int32 → Int32 → Int32 → Int32 → HP → Option (Int32 × HP)) (k57_ : Nat → Int32 → Int32 → Int32 → Int32 → Int32 → HP → Option (Int32 × HP)) (a0 : Nat) (x1 : Int32) (x2 : Int32) (x3 : Int32) (x4 : Int32) (x5 : Int32) (h : HP) : Option (Int32 × HP) :=
  k57_ a0 x1 x2 x3 x4 (x5 + (1 : Int32)) h
set_option maxHeartbeats 1000000 in
theorem x_M_bestSwap_148 {l : Launch} {D : va_G} {ad : Nat → Nat} {aC : Nat → ClassId} (hf : l.flags = flags0) (hI : Inj ad) {k38_ : Nat → Int32 → Int32 → Int32 → Int32 → HP → Option (Int32 × HP)} {k57_ : Nat → Int32 → Int32 → Int32 → Int32 → Int32 → HP → Option (Int32 × HP)} (K38_ : ∀ {a0 : Nat} {x1 : Int32} {x2 : Int32} {x3 : Int32} {x4 : Int32} {h : HP} {r : Int32 × HP}, knd a0 = 8 → k38_ a0 x1 x2 x3 x4 h = some r → Go l D ad aC (rmk m_M_bestSwap) (QM D ad aC m_M_bestSwap (.inl (some (.int r.1))) r.2) m_M_bestSwap 38 [some (.ref a0), some (.int x1), some (.int x2), some (.int x3), some (.int x4), none, none] [] h 0 0) (K57_ : ∀ {a0 : Nat} {x1 : Int32} {x2 : Int32} {x3 : Int32} {x4 : Int32} {x5 : Int32} {h : HP} {r : Int32 × HP}, knd a0 = 8 → k57_ a0 x1 x2 x3 x4 x5 h = some r → Go l D ad aC (rmk m_M_bestSwap) (QM D ad aC m_M_bestSwap (.inl (some (.int r.1))) r.2) m_M_bestSwap 57 [some (.ref a0), some (.int x1), some (.int x2), some (.int x3), some (.int x4), some (.int x5), none] [] h 0 0) {a0 : Nat} {x1 : Int32} {x2 : Int32} {x3 : Int32} {x4 : Int32} {x5 : Int32} {h : HP} {r : Int32 × HP} (k0 : knd a0 = 8) (e : f_M_bestSwap_148 k38_ k57_ a0 x1 x2 x3 x4 x5 h = some r) : Go l D ad aC (rmk m_M_bestSwap) (QM D ad aC m_M_bestSwap (.inl (some (.int r.1))) r.2) m_M_bestSwap 148 [some (.ref a0), some (.int x1), some (.int x2), some (.int x3), some (.int x4), some (.int x5), none] [] h 0 0 := by
  unfold f_M_bestSwap_148 at e
  refine Go.run (pc' := 151) [.iinc 5 (1)] (ls' := [some (.ref a0), some (.int x1), some (.int x2), some (.int x3), some (.int x4), some (.int (x5 + (1 : Int32))), none]) (st' := []) (by decide +kernel) rfl rfl ?_
  refine Go.goto (off := -94) (tgt := 57) (by decide +kernel) (by decide) ?_
  exact K57_ k0 e
def f_M_bestSwap_147 (k38_ : Nat → Int32 → Int32 → Int32 → Int32 → HP → Option (Int32 × HP)) (k57_ : Nat → Int32 → Int32 → Int32 → Int32 → Int32 → HP → Option (Int32 × HP)) (a0 : Nat) (x1 : Int32) (x2 : Int32) (x4 : Int32) (x5 : Int32) (s0 : Int32) (h : HP) : Option (Int32 × HP) :=
  f_M_bestSwap_148 k38_ k57_ a0 x1 x2 s0 x4 x5 h
set_option maxHeartbeats 1000000 in
theorem x_M_bestSwap_147 {l : Launch} {D : va_G} {ad : Nat → Nat} {aC : Nat → ClassId} (hf : l.flags = flags0) (hI : Inj ad) {k38_ : Nat → Int32 → Int32 → Int32 → Int32 → HP → Option (Int32 × HP)} {k57_ : Nat → Int32 → Int32 → Int32 → Int32 → Int32 → HP → Option (Int32 × HP)} (K38_ : ∀ {a0 : Nat} {x1 : Int32} {x2 : Int32} {x3 : Int32} {x4 : Int32} {h : HP} {r : Int32 × HP}, knd a0 = 8 → k38_ a0 x1 x2 x3 x4 h = some r → Go l D ad aC (rmk m_M_bestSwap) (QM D ad aC m_M_bestSwap (.inl (some (.int r.1))) r.2) m_M_bestSwap 38 [some (.ref a0), some (.int x1), some (.int x2), some (.int x3), some (.int x4), none, none] [] h 0 0) (K57_ : ∀ {a0 : Nat} {x1 : Int32} {x2 : Int32} {x3 : Int32} {x4 : Int32} {x5 : Int32} {h : HP} {r : Int32 × HP}, knd a0 = 8 → k57_ a0 x1 x2 x3 x4 x5 h = some r → Go l D ad aC (rmk m_M_bestSwap) (QM D ad aC m_M_bestSwap (.inl (some (.int r.1))) r.2) m_M_bestSwap 57 [some (.ref a0), some (.int x1), some (.int x2), some (.int x3), some (.int x4), some (.int x5), none] [] h 0 0) {a0 : Nat} {x1 : Int32} {x2 : Int32} {x4 : Int32} {x5 : Int32} {s0 : Int32} {h : HP} {r : Int32 × HP} (k0 : knd a0 = 8) (e : f_M_bestSwap_147 k38_ k57_ a0 x1 x2 x4 x5 s0 h = some r) : Go l D ad aC (rmk m_M_bestSwap) (QM D ad aC m_M_bestSwap (.inl (some (.int r.1))) r.2) m_M_bestSwap 147 [some (.ref a0), some (.int x1), some (.int x2), none, some (.int x4), some (.int x5), none] [.int s0] h 0 0 := by
  unfold f_M_bestSwap_147 at e
  refine Go.run (pc' := 148) [.istore_n 3] (ls' := [some (.ref a0), some (.int x1), some (.int x2), some (.int s0), some (.int x4), some (.int x5), none]) (st' := []) (by decide +kernel) rfl rfl ?_
  exact x_M_bestSwap_148 hf hI K38_ K57_ k0 e
def f_M_bestSwap_134 (k38_ : Nat → Int32 → Int32 → Int32 → Int32 → HP → Option (Int32 × HP)) (k57_ : Nat → Int32 → Int32 → Int32 → Int32 → Int32 → HP → Option (Int32 × HP)) (a0 : Nat) (x1 : Int32) (x3 : Int32) (x4 : Int32) (x5 : Int32) (x6 : Int32) (s0 : Int32) (h : HP) : Option (Int32 × HP) :=
  if x6 ≤ x3 then
    f_M_bestSwap_147 k38_ k57_ a0 x1 s0 x4 x5 x3 h
  else
    f_M_bestSwap_147 k38_ k57_ a0 x1 s0 x4 x5 x6 h
set_option maxHeartbeats 1000000 in
theorem x_M_bestSwap_134 {l : Launch} {D : va_G} {ad : Nat → Nat} {aC : Nat → ClassId} (hf : l.flags = flags0) (hI : Inj ad) {k38_ : Nat → Int32 → Int32 → Int32 → Int32 → HP → Option (Int32 × HP)} {k57_ : Nat → Int32 → Int32 → Int32 → Int32 → Int32 → HP → Option (Int32 × HP)} (K38_ : ∀ {a0 : Nat} {x1 : Int32} {x2 : Int32} {x3 : Int32} {x4 : Int32} {h : HP} {r : Int32 × HP}, knd a0 = 8 → k38_ a0 x1 x2 x3 x4 h = some r → Go l D ad aC (rmk m_M_bestSwap) (QM D ad aC m_M_bestSwap (.inl (some (.int r.1))) r.2) m_M_bestSwap 38 [some (.ref a0), some (.int x1), some (.int x2), some (.int x3), some (.int x4), none, none] [] h 0 0) (K57_ : ∀ {a0 : Nat} {x1 : Int32} {x2 : Int32} {x3 : Int32} {x4 : Int32} {x5 : Int32} {h : HP} {r : Int32 × HP}, knd a0 = 8 → k57_ a0 x1 x2 x3 x4 x5 h = some r → Go l D ad aC (rmk m_M_bestSwap) (QM D ad aC m_M_bestSwap (.inl (some (.int r.1))) r.2) m_M_bestSwap 57 [some (.ref a0), some (.int x1), some (.int x2), some (.int x3), some (.int x4), some (.int x5), none] [] h 0 0) {a0 : Nat} {x1 : Int32} {x3 : Int32} {x4 : Int32} {x5 : Int32} {x6 : Int32} {s0 : Int32} {h : HP} {r : Int32 × HP} (k0 : knd a0 = 8) (e : f_M_bestSwap_134 k38_ k57_ a0 x1 x3 x4 x5 x6 s0 h = some r) : Go l D ad aC (rmk m_M_bestSwap) (QM D ad aC m_M_bestSwap (.inl (some (.int r.1))) r.2) m_M_bestSwap 134 [some (.ref a0), some (.int x1), none, some (.int x3), some (.int x4), some (.int x5), some (.int x6)] [.int s0] h 0 0 := by
  unfold f_M_bestSwap_134 at e
  refine Go.run (pc' := 138) [.istore_n 2, .iload 6, .iload_n 3] (ls' := [some (.ref a0), some (.int x1), some (.int s0), some (.int x3), some (.int x4), some (.int x5), some (.int x6)]) (st' := [.int x3, .int x6]) (by decide +kernel) rfl rfl ?_
  refine Go.ic_le (off := 8) (tgt := 146) (by decide +kernel) (by decide) (fun c1 => ?_) (fun c1 => ?_)
  · replace e := ite_t c1 e
    refine Go.run (pc' := 147) [.iload_n 3] (ls' := [some (.ref a0), some (.int x1), some (.int s0), some (.int x3), some (.int x4), some (.int x5), some (.int x6)]) (st' := [.int x3]) (by decide +kernel) rfl rfl ?_
    refine Go.wk' (wks (wks (wks (wkn (wks (wks (wkn wk0))))))) ?_
    exact x_M_bestSwap_147 hf hI K38_ K57_ k0 e
  · replace e := ite_f c1 e
    refine Go.run (pc' := 143) [.iload 6] (ls' := [some (.ref a0), some (.int x1), some (.int s0), some (.int x3), some (.int x4), some (.int x5), some (.int x6)]) (st' := [.int x6]) (by decide +kernel) rfl rfl ?_
    refine Go.goto (off := 4) (tgt := 147) (by decide +kernel) (by decide) ?_
    refine Go.wk' (wks (wks (wks (wkn (wks (wks (wkn wk0))))))) ?_
    exact x_M_bestSwap_147 hf hI K38_ K57_ k0 e
def f_M_bestSwap_57 (k38_ : Nat → Int32 → Int32 → Int32 → Int32 → HP → Option (Int32 × HP)) : Nat → Nat → Int32 → Int32 → Int32 → Int32 → Int32 → HP → Option (Int32 × HP)
  | 0, _, _, _, _, _, _, _ => none
  | n + 1, a0, x1, x2, x3, x4, x5, h =>
    if ib (185 : Int32) 196 = true then
    if (h (fld a0 1) (185 : Int32).toNatClampNeg) ≤ x5 then
      k38_ a0 x1 x2 x3 (x4 + (1 : Int32)) h
    else
      (f_M_copy h (fld a0 1) (fld a0 2)).bind fun v3 =>
      (f_M_whyNoSwap v3 (fld a0 2) x4 x5).bind fun v5 =>
      if v5.1 = 0 then
        (f_M_exchange v5.2 (fld a0 2) x4 x5).bind fun v8 =>
        (f_M_rents v8 a0 (fld a0 2)).bind fun v10 =>
        if v10.1 ≤ x3 then
          f_M_bestSwap_134 k38_ (f_M_bestSwap_57 k38_ n) a0 x1 x3 x4 x5 v10.1 x2 v10.2
        else
          f_M_bestSwap_134 k38_ (f_M_bestSwap_57 k38_ n) a0 x1 x3 x4 x5 v10.1 (((10 : Int32) * x4) + x5) v10.2
      else
        f_M_bestSwap_148 k38_ (f_M_bestSwap_57 k38_ n) a0 x1 x2 x3 x4 x5 v5.2
    else none
set_option maxHeartbeats 1000000 in
theorem x_M_bestSwap_57 {l : Launch} {D : va_G} {ad : Nat → Nat} {aC : Nat → ClassId} (hf : l.flags = flags0) (hI : Inj ad) {k38_ : Nat → Int32 → Int32 → Int32 → Int32 → HP → Option (Int32 × HP)} (K38_ : ∀ {a0 : Nat} {x1 : Int32} {x2 : Int32} {x3 : Int32} {x4 : Int32} {h : HP} {r : Int32 × HP}, knd a0 = 8 → k38_ a0 x1 x2 x3 x4 h = some r → Go l D ad aC (rmk m_M_bestSwap) (QM D ad aC m_M_bestSwap (.inl (some (.int r.1))) r.2) m_M_bestSwap 38 [some (.ref a0), some (.int x1), some (.int x2), some (.int x3), some (.int x4), none, none] [] h 0 0) : ∀ (n : Nat) {a0 : Nat} {x1 : Int32} {x2 : Int32} {x3 : Int32} {x4 : Int32} {x5 : Int32} {h : HP} {r : Int32 × HP}, knd a0 = 8 → f_M_bestSwap_57 k38_ n a0 x1 x2 x3 x4 x5 h = some r → Go l D ad aC (rmk m_M_bestSwap) (QM D ad aC m_M_bestSwap (.inl (some (.int r.1))) r.2) m_M_bestSwap 57 [some (.ref a0), some (.int x1), some (.int x2), some (.int x3), some (.int x4), some (.int x5), none] [] h 0 0 := by
  intro n
  induction n with
  | zero => intro a0 x1 x2 x3 x4 x5 h r k0 e; exact no_none e
  | succ n ih =>
    intro a0 x1 x2 x3 x4 x5 h r k0 e
    rw [f_M_bestSwap_57] at e
    refine Go.run (pc' := 60) [.iload 5, .aload_n 0] (ls' := [some (.ref a0), some (.int x1), some (.int x2), some (.int x3), some (.int x4), some (.int x5), none]) (st' := [.ref a0, .int x5]) (by decide +kernel) rfl rfl ?_
    refine Go.getR fo_M_7 k0 (by decide +kernel) ?_
    refine Go.run (pc' := 66) [.sipush (185)] (ls' := [some (.ref a0), some (.int x1), some (.int x2), some (.int x3), some (.int x4), some (.int x5), none]) (st' := [.int (185 : Int32), .ref (fld a0 1), .int x5]) (by decide +kernel) rfl rfl ?_
    obtain ⟨g1, e⟩ := gd_inv e
    refine Go.iald (kf_8_j 1 k0 (by decide) (by decide)) (al_8_j 1 k0 (by decide) (by decide) rfl) g1 (by decide +kernel) ?_
    refine Go.ic_ge (off := 87) (tgt := 154) (by decide +kernel) (by decide) (fun c2 => ?_) (fun c2 => ?_)
    · replace e := ite_t c2 e
      refine Go.run (pc' := 157) [.iinc 4 (1)] (ls' := [some (.ref a0), some (.int x1), some (.int x2), some (.int x3), some (.int (x4 + (1 : Int32))), some (.int x5), none]) (st' := []) (by decide +kernel) rfl rfl ?_
      refine Go.goto (off := -119) (tgt := 38) (by decide +kernel) (by decide) ?_
      refine Go.wk' (wks (wks (wks (wks (wks (wkn (wks wk0))))))) ?_
      exact K38_ k0 e
    · replace e := ite_f c2 e
      refine Go.run (pc' := 71) [.aload_n 0] (ls' := [some (.ref a0), some (.int x1), some (.int x2), some (.int x3), some (.int x4), some (.int x5), none]) (st' := [.ref a0]) (by decide +kernel) rfl rfl ?_
      refine Go.getR fo_M_7 k0 (by decide +kernel) ?_
      refine Go.run (pc' := 75) [.aload_n 0] (ls' := [some (.ref a0), some (.int x1), some (.int x2), some (.int x3), some (.int x4), some (.int x5), none]) (st' := [.ref a0, .ref (fld a0 1)]) (by decide +kernel) rfl rfl ?_
      refine Go.getR fo_M_13 k0 (by decide +kernel) ?_
      obtain ⟨v3, e4, e⟩ := bd_inv e
      refine Go.callS (M2 := m_M_copy) (as := [.ref (fld a0 1), .ref (fld a0 2)]) (rest := []) (v := none) (h1 := v3) (x_M_copy hf hI (kf_8_j 1 k0 (by decide) (by decide)) (al_8_j 1 k0 (by decide) (by decide) rfl) (kf_8_j 2 k0 (by decide) (by decide)) (al_8_j 2 k0 (by decide) (by decide) rfl) e4) ws_M_227 (by decide +kernel) rfl rfl ⟨⟨Nat.le_of_ble_eq_true rfl, Nat.le_of_ble_eq_true rfl⟩, ⟨Nat.le_of_ble_eq_true rfl, Nat.le_of_ble_eq_true rfl⟩⟩ (Nat.le_of_ble_eq_true rfl) ?_
      show Go l D ad aC (rmk m_M_bestSwap) _ m_M_bestSwap 81 [some (.ref a0), some (.int x1), some (.int x2), some (.int x3), some (.int x4), some (.int x5), none] [] v3 0 0
      refine Go.run (pc' := 82) [.aload_n 0] (ls' := [some (.ref a0), some (.int x1), some (.int x2), some (.int x3), some (.int x4), some (.int x5), none]) (st' := [.ref a0]) (by decide +kernel) rfl rfl ?_
      refine Go.getR fo_M_13 k0 (by decide +kernel) ?_
      refine Go.run (pc' := 89) [.iload 4, .iload 5] (ls' := [some (.ref a0), some (.int x1), some (.int x2), some (.int x3), some (.int x4), some (.int x5), none]) (st' := [.int x5, .int x4, .ref (fld a0 2)]) (by decide +kernel) rfl rfl ?_
      obtain ⟨v5, e6, e⟩ := bd_inv e
      refine Go.callS (M2 := m_M_whyNoSwap) (as := [.ref (fld a0 2), .int x4, .int x5]) (rest := []) (v := some (.int v5.1)) (h1 := v5.2) (x_M_whyNoSwap hf hI (kf_8_j 2 k0 (by decide) (by decide)) (al_8_j 2 k0 (by decide) (by decide) rfl) e6) ws_M_127 (by decide +kernel) rfl rfl ⟨⟨Nat.le_of_ble_eq_true rfl, Nat.le_of_ble_eq_true rfl⟩, ⟨Nat.le_of_ble_eq_true rfl, Nat.le_of_ble_eq_true rfl⟩⟩ (Nat.le_of_ble_eq_true rfl) ?_
      show Go l D ad aC (rmk m_M_bestSwap) _ m_M_bestSwap 92 [some (.ref a0), some (.int x1), some (.int x2), some (.int x3), some (.int x4), some (.int x5), none] [.int v5.1] v5.2 0 0
      refine Go.if_ne (off := 56) (tgt := 148) (by decide +kernel) (by decide) (fun c7 => ?_) (fun c7 => ?_)
      · replace e := ite_f c7 e
        exact x_M_bestSwap_148 hf hI K38_ (fun kk0 e => ih kk0 e) k0 e
      · replace e := ite_t c7 e
        refine Go.run (pc' := 96) [.aload_n 0] (ls' := [some (.ref a0), some (.int x1), some (.int x2), some (.int x3), some (.int x4), some (.int x5), none]) (st' := [.ref a0]) (by decide +kernel) rfl rfl ?_
        refine Go.getR fo_M_13 k0 (by decide +kernel) ?_
        refine Go.run (pc' := 103) [.iload 4, .iload 5] (ls' := [some (.ref a0), some (.int x1), some (.int x2), some (.int x3), some (.int x4), some (.int x5), none]) (st' := [.int x5, .int x4, .ref (fld a0 2)]) (by decide +kernel) rfl rfl ?_
        obtain ⟨v8, e9, e⟩ := bd_inv e
        refine Go.callS (M2 := m_M_exchange) (as := [.ref (fld a0 2), .int x4, .int x5]) (rest := []) (v := none) (h1 := v8) (x_M_exchange hf hI (kf_8_j 2 k0 (by decide) (by decide)) (al_8_j 2 k0 (by decide) (by decide) rfl) e9) ws_M_130 (by decide +kernel) rfl rfl ⟨⟨Nat.le_of_ble_eq_true rfl, Nat.le_of_ble_eq_true rfl⟩, ⟨Nat.le_of_ble_eq_true rfl, Nat.le_of_ble_eq_true rfl⟩⟩ (Nat.le_of_ble_eq_true rfl) ?_
        show Go l D ad aC (rmk m_M_bestSwap) _ m_M_bestSwap 106 [some (.ref a0), some (.int x1), some (.int x2), some (.int x3), some (.int x4), some (.int x5), none] [] v8 0 0
        refine Go.run (pc' := 108) [.aload_n 0, .aload_n 0] (ls' := [some (.ref a0), some (.int x1), some (.int x2), some (.int x3), some (.int x4), some (.int x5), none]) (st' := [.ref a0, .ref a0]) (by decide +kernel) rfl rfl ?_
        refine Go.getR fo_M_13 k0 (by decide +kernel) ?_
        obtain ⟨v10, e11, e⟩ := bd_inv e
        refine Go.callV (M2 := m_M_rents) (a := a0) (as := [.ref (fld a0 2)]) (rest := []) (v := some (.int v10.1)) (h1 := v10.2) (x_M_rents hf hI k0 (kf_8_j 2 k0 (by decide) (by decide)) (al_8_j 2 k0 (by decide) (by decide) rfl) e11) wv_M_252 k0 kc_8 (by decide +kernel) rfl rfl ⟨⟨Nat.le_of_ble_eq_true rfl, Nat.le_of_ble_eq_true rfl⟩, ⟨Nat.le_of_ble_eq_true rfl, Nat.le_of_ble_eq_true rfl⟩⟩ (Nat.le_of_ble_eq_true rfl) ?_
        show Go l D ad aC (rmk m_M_bestSwap) _ m_M_bestSwap 114 [some (.ref a0), some (.int x1), some (.int x2), some (.int x3), some (.int x4), some (.int x5), none] [.int v10.1] v10.2 0 0
        refine Go.run (pc' := 119) [.istore 6, .iload 6, .iload_n 3] (ls' := [some (.ref a0), some (.int x1), some (.int x2), some (.int x3), some (.int x4), some (.int x5), some (.int v10.1)]) (st' := [.int x3, .int v10.1]) (by decide +kernel) rfl rfl ?_
        refine Go.ic_le (off := 14) (tgt := 133) (by decide +kernel) (by decide) (fun c12 => ?_) (fun c12 => ?_)
        · replace e := ite_t c12 e
          refine Go.run (pc' := 134) [.iload_n 2] (ls' := [some (.ref a0), some (.int x1), some (.int x2), some (.int x3), some (.int x4), some (.int x5), some (.int v10.1)]) (st' := [.int x2]) (by decide +kernel) rfl rfl ?_
          refine Go.wk' (wks (wks (wkn (wks (wks (wks (wks wk0))))))) ?_
          exact x_M_bestSwap_134 hf hI K38_ (fun kk0 e => ih kk0 e) k0 e
        · replace e := ite_f c12 e
          refine Go.run (pc' := 130) [.bipush (10), .iload 4, .imul, .iload 5, .iadd] (ls' := [some (.ref a0), some (.int x1), some (.int x2), some (.int x3), some (.int x4), some (.int x5), some (.int v10.1)]) (st' := [.int (((10 : Int32) * x4) + x5)]) (by decide +kernel) rfl rfl ?_
          refine Go.goto (off := 4) (tgt := 134) (by decide +kernel) (by decide) ?_
          refine Go.wk' (wks (wks (wkn (wks (wks (wks (wks wk0))))))) ?_
          exact x_M_bestSwap_134 hf hI K38_ (fun kk0 e => ih kk0 e) k0 e
def f_M_bestSwap_38  : Nat → Nat → Int32 → Int32 → Int32 → Int32 → HP → Option (Int32 × HP)
  | 0, _, _, _, _, _, _ => none
  | n + 1, a0, x1, x2, x3, x4, h =>
    if ib (185 : Int32) 196 = true then
    if (h (fld a0 1) (185 : Int32).toNatClampNeg) ≤ x4 then
      if x2 = (-1 : Int32) then
        some ((-1 : Int32), h)
      else
        if x1 = 0 then
          some (x2, h)
        else
          some (x3, h)
    else
      f_M_bestSwap_57 (f_M_bestSwap_38 n) 4096 a0 x1 x2 x3 x4 (x4 + (1 : Int32)) h
    else none
set_option maxHeartbeats 1000000 in
theorem x_M_bestSwap_38 {l : Launch} {D : va_G} {ad : Nat → Nat} {aC : Nat → ClassId} (hf : l.flags = flags0) (hI : Inj ad) : ∀ (n : Nat) {a0 : Nat} {x1 : Int32} {x2 : Int32} {x3 : Int32} {x4 : Int32} {h : HP} {r : Int32 × HP}, knd a0 = 8 → f_M_bestSwap_38 n a0 x1 x2 x3 x4 h = some r → Go l D ad aC (rmk m_M_bestSwap) (QM D ad aC m_M_bestSwap (.inl (some (.int r.1))) r.2) m_M_bestSwap 38 [some (.ref a0), some (.int x1), some (.int x2), some (.int x3), some (.int x4), none, none] [] h 0 0 := by
  intro n
  induction n with
  | zero => intro a0 x1 x2 x3 x4 h r k0 e; exact no_none e
  | succ n ih =>
    intro a0 x1 x2 x3 x4 h r k0 e
    rw [f_M_bestSwap_38] at e
    refine Go.run (pc' := 41) [.iload 4, .aload_n 0] (ls' := [some (.ref a0), some (.int x1), some (.int x2), some (.int x3), some (.int x4), none, none]) (st' := [.ref a0, .int x4]) (by decide +kernel) rfl rfl ?_
    refine Go.getR fo_M_7 k0 (by decide +kernel) ?_
    refine Go.run (pc' := 47) [.sipush (185)] (ls' := [some (.ref a0), some (.int x1), some (.int x2), some (.int x3), some (.int x4), none, none]) (st' := [.int (185 : Int32), .ref (fld a0 1), .int x4]) (by decide +kernel) rfl rfl ?_
    obtain ⟨g1, e⟩ := gd_inv e
    refine Go.iald (kf_8_j 1 k0 (by decide) (by decide)) (al_8_j 1 k0 (by decide) (by decide) rfl) g1 (by decide +kernel) ?_
    refine Go.ic_ge (off := 112) (tgt := 160) (by decide +kernel) (by decide) (fun c2 => ?_) (fun c2 => ?_)
    · replace e := ite_t c2 e
      refine Go.run (pc' := 162) [.iload_n 2, .iconst (-1)] (ls' := [some (.ref a0), some (.int x1), some (.int x2), some (.int x3), some (.int x4), none, none]) (st' := [.int (-1 : Int32), .int x2]) (by decide +kernel) rfl rfl ?_
      refine Go.ic_ne (off := 7) (tgt := 169) (by decide +kernel) (by decide) (fun c3 => ?_) (fun c3 => ?_)
      · replace e := ite_f c3 e
        refine Go.run (pc' := 170) [.iload_n 1] (ls' := [some (.ref a0), some (.int x1), some (.int x2), some (.int x3), some (.int x4), none, none]) (st' := [.int x1]) (by decide +kernel) rfl rfl ?_
        refine Go.if_ne (off := 7) (tgt := 177) (by decide +kernel) (by decide) (fun c4 => ?_) (fun c4 => ?_)
        · replace e := ite_f c4 e
          refine Go.run (pc' := 178) [.iload_n 3] (ls' := [some (.ref a0), some (.int x1), some (.int x2), some (.int x3), some (.int x4), none, none]) (st' := [.int x3]) (by decide +kernel) rfl rfl ?_
          obtain rfl := Option.some.inj e
          exact Go.iret rfl (by decide) (by decide) (by decide +kernel)
        · replace e := ite_t c4 e
          refine Go.run (pc' := 174) [.iload_n 2] (ls' := [some (.ref a0), some (.int x1), some (.int x2), some (.int x3), some (.int x4), none, none]) (st' := [.int x2]) (by decide +kernel) rfl rfl ?_
          refine Go.goto (off := 4) (tgt := 178) (by decide +kernel) (by decide) ?_
          obtain rfl := Option.some.inj e
          exact Go.iret rfl (by decide) (by decide) (by decide +kernel)
      · replace e := ite_t c3 e
        refine Go.run (pc' := 166) [.iconst (-1)] (ls' := [some (.ref a0), some (.int x1), some (.int x2), some (.int x3), some (.int x4), none, none]) (st' := [.int (-1 : Int32)]) (by decide +kernel) rfl rfl ?_
        refine Go.goto (off := 12) (tgt := 178) (by decide +kernel) (by decide) ?_
        obtain rfl := Option.some.inj e
        exact Go.iret rfl (by decide) (by decide) (by decide +kernel)
    · replace e := ite_f c2 e
      refine Go.run (pc' := 57) [.iload 4, .iconst 1, .iadd, .istore 5] (ls' := [some (.ref a0), some (.int x1), some (.int x2), some (.int x3), some (.int x4), some (.int (x4 + (1 : Int32))), none]) (st' := []) (by decide +kernel) rfl rfl ?_
      exact x_M_bestSwap_57 hf hI (fun kk0 e => ih kk0 e) 4096 k0 e
def f_M_bestSwap_16  (a0 : Nat) (x1 : Int32) (b0 : Nat) (s1 : Int32) (h : HP) : Option (Int32 × HP) :=
  (f_M_refused h b0 s1).bind fun v1 =>
  if v1.1 = 0 then
    (f_M_rents v1.2 a0 (fld a0 1)).bind fun v4 =>
    f_M_bestSwap_38 4096 a0 x1 (-1 : Int32) v4.1 (0 : Int32) v4.2
  else
    some ((0 : Int32), v1.2)
set_option maxHeartbeats 1000000 in
theorem x_M_bestSwap_16 {l : Launch} {D : va_G} {ad : Nat → Nat} {aC : Nat → ClassId} (hf : l.flags = flags0) (hI : Inj ad) {a0 : Nat} {x1 : Int32} {b0 : Nat} {s1 : Int32} {h : HP} {r : Int32 × HP} (k0 : knd a0 = 8) (kb0 : knd b0 = 8) (e : f_M_bestSwap_16 a0 x1 b0 s1 h = some r) : Go l D ad aC (rmk m_M_bestSwap) (QM D ad aC m_M_bestSwap (.inl (some (.int r.1))) r.2) m_M_bestSwap 16 [some (.ref a0), some (.int x1), none, none, none, none, none] [.int s1, .ref b0] h 0 0 := by
  unfold f_M_bestSwap_16 at e
  obtain ⟨v1, e2, e⟩ := bd_inv e
  refine Go.callV (M2 := m_M_refused) (a := b0) (as := [.int s1]) (rest := []) (v := some (.int v1.1)) (h1 := v1.2) (x_M_refused hf hI kb0 e2) wv_M_142 kb0 kc_8 (by decide +kernel) rfl rfl ⟨⟨Nat.le_of_ble_eq_true rfl, Nat.le_of_ble_eq_true rfl⟩, ⟨Nat.le_of_ble_eq_true rfl, Nat.le_of_ble_eq_true rfl⟩⟩ (Nat.le_of_ble_eq_true rfl) ?_
  show Go l D ad aC (rmk m_M_bestSwap) _ m_M_bestSwap 19 [some (.ref a0), some (.int x1), none, none, none, none, none] [.int v1.1] v1.2 0 0
  refine Go.if_eq (off := 5) (tgt := 24) (by decide +kernel) (by decide) (fun c3 => ?_) (fun c3 => ?_)
  · replace e := ite_t c3 e
    refine Go.run (pc' := 28) [.iconst (-1), .istore_n 2, .aload_n 0, .aload_n 0] (ls' := [some (.ref a0), some (.int x1), some (.int (-1 : Int32)), none, none, none, none]) (st' := [.ref a0, .ref a0]) (by decide +kernel) rfl rfl ?_
    refine Go.getR fo_M_7 k0 (by decide +kernel) ?_
    obtain ⟨v4, e5, e⟩ := bd_inv e
    refine Go.callV (M2 := m_M_rents) (a := a0) (as := [.ref (fld a0 1)]) (rest := []) (v := some (.int v4.1)) (h1 := v4.2) (x_M_rents hf hI k0 (kf_8_j 1 k0 (by decide) (by decide)) (al_8_j 1 k0 (by decide) (by decide) rfl) e5) wv_M_252 k0 kc_8 (by decide +kernel) rfl rfl ⟨⟨Nat.le_of_ble_eq_true rfl, Nat.le_of_ble_eq_true rfl⟩, ⟨Nat.le_of_ble_eq_true rfl, Nat.le_of_ble_eq_true rfl⟩⟩ (Nat.le_of_ble_eq_true rfl) ?_
    show Go l D ad aC (rmk m_M_bestSwap) _ m_M_bestSwap 34 [some (.ref a0), some (.int x1), some (.int (-1 : Int32)), none, none, none, none] [.int v4.1] v4.2 0 0
    refine Go.run (pc' := 38) [.istore_n 3, .iconst 0, .istore 4] (ls' := [some (.ref a0), some (.int x1), some (.int (-1 : Int32)), some (.int v4.1), some (.int (0 : Int32)), none, none]) (st' := []) (by decide +kernel) rfl rfl ?_
    exact x_M_bestSwap_38 hf hI 4096 k0 e
  · replace e := ite_f c3 e
    refine Go.run (pc' := 23) [.iconst 0] (ls' := [some (.ref a0), some (.int x1), none, none, none, none, none]) (st' := [.int (0 : Int32)]) (by decide +kernel) rfl rfl ?_
    obtain rfl := Option.some.inj e
    exact Go.iret rfl (by decide) (by decide) (by decide +kernel)
def f_M_bestSwap (h : HP) (a0 : Nat) (x1 : Int32) : Option (Int32 × HP) :=
  (f_M_in h x1.toInt64 (0 : Int64) (1 : Int64)).bind fun v1 =>
  if v1 = 0 then
    f_M_bestSwap_16 a0 x1 a0 (1 : Int32) h
  else
    f_M_bestSwap_16 a0 x1 a0 (0 : Int32) h
set_option maxHeartbeats 1000000 in
theorem x_M_bestSwap {l : Launch} {D : va_G} {ad : Nat → Nat} {aC : Nat → ClassId} (hf : l.flags = flags0) (hI : Inj ad) {h : HP} {a0 : Nat} {x1 : Int32} {r : Int32 × HP} (k0 : knd a0 = 8) (e : f_M_bestSwap h a0 x1 = some r) : CT l D ad aC m_M_bestSwap [.ref a0, .int x1] h (.inl (some (.int r.1))) r.2 := by
  refine CT.ofGo (by decide +kernel) rfl (Nat.le_of_ble_eq_true rfl) ?_
  unfold f_M_bestSwap at e
  show Go l D ad aC (rmk m_M_bestSwap) _ m_M_bestSwap 0 [some (.ref a0), some (.int x1), none, none, none, none, none] [] h 0 0
  refine Go.run (pc' := 5) [.aload_n 0, .iload_n 1, .i2l, .lconst 0, .lconst 1] (ls' := [some (.ref a0), some (.int x1), none, none, none, none, none]) (st' := [.long (1 : Int64), .long (0 : Int64), .long x1.toInt64, .ref a0]) (by decide +kernel) rfl rfl ?_
  obtain ⟨v1, e2, e⟩ := bd_inv e
  refine Go.callS (M2 := m_M_in) (as := [.long x1.toInt64, .long (0 : Int64), .long (1 : Int64)]) (rest := [.ref a0]) (v := some (.int v1)) (h1 := h) (x_M_in hf hI  e2) ws_M_51 (by decide +kernel) rfl rfl ⟨⟨Nat.le_of_ble_eq_true rfl, Nat.le_of_ble_eq_true rfl⟩, ⟨Nat.le_of_ble_eq_true rfl, Nat.le_of_ble_eq_true rfl⟩⟩ (Nat.le_of_ble_eq_true rfl) ?_
  show Go l D ad aC (rmk m_M_bestSwap) _ m_M_bestSwap 8 [some (.ref a0), some (.int x1), none, none, none, none, none] [.int v1, .ref a0] h 0 0
  refine Go.if_eq (off := 7) (tgt := 15) (by decide +kernel) (by decide) (fun c3 => ?_) (fun c3 => ?_)
  · replace e := ite_t c3 e
    refine Go.run (pc' := 16) [.iconst 1] (ls' := [some (.ref a0), some (.int x1), none, none, none, none, none]) (st' := [.int (1 : Int32), .ref a0]) (by decide +kernel) rfl rfl ?_
    exact x_M_bestSwap_16 hf hI k0 k0 e
  · replace e := ite_f c3 e
    refine Go.run (pc' := 12) [.iconst 0] (ls' := [some (.ref a0), some (.int x1), none, none, none, none, none]) (st' := [.int (0 : Int32), .ref a0]) (by decide +kernel) rfl rfl ?_
    refine Go.goto (off := 4) (tgt := 16) (by decide +kernel) (by decide) ?_
    exact x_M_bestSwap_16 hf hI k0 k0 e
def f_M_why_27  (a0 : Nat) (x1 : Int32) (x2 : Int32) (b0 : Nat) (s1 : Int32) (h : HP) : Option (Int32 × HP) :=
  (f_M_refused h b0 s1).bind fun v1 =>
  if v1.1 = 0 then
    (f_M_copy v1.2 (fld a0 1) (fld a0 2)).bind fun v4 =>
    (f_M_whyNoSwap v4 (fld a0 2) x1 x2).bind fun v6 =>
    some (v6.1, v6.2)
  else
    some ((0 : Int32), v1.2)
set_option maxHeartbeats 1000000 in
theorem x_M_why_27 {l : Launch} {D : va_G} {ad : Nat → Nat} {aC : Nat → ClassId} (hf : l.flags = flags0) (hI : Inj ad) {a0 : Nat} {x1 : Int32} {x2 : Int32} {b0 : Nat} {s1 : Int32} {h : HP} {r : Int32 × HP} (k0 : knd a0 = 8) (kb0 : knd b0 = 8) (e : f_M_why_27 a0 x1 x2 b0 s1 h = some r) : Go l D ad aC (rmk m_M_why) (QM D ad aC m_M_why (.inl (some (.int r.1))) r.2) m_M_why 27 [some (.ref a0), some (.int x1), some (.int x2)] [.int s1, .ref b0] h 0 0 := by
  unfold f_M_why_27 at e
  obtain ⟨v1, e2, e⟩ := bd_inv e
  refine Go.callV (M2 := m_M_refused) (a := b0) (as := [.int s1]) (rest := []) (v := some (.int v1.1)) (h1 := v1.2) (x_M_refused hf hI kb0 e2) wv_M_142 kb0 kc_8 (by decide +kernel) rfl rfl ⟨⟨Nat.le_of_ble_eq_true rfl, Nat.le_of_ble_eq_true rfl⟩, ⟨Nat.le_of_ble_eq_true rfl, Nat.le_of_ble_eq_true rfl⟩⟩ (Nat.le_of_ble_eq_true rfl) ?_
  show Go l D ad aC (rmk m_M_why) _ m_M_why 30 [some (.ref a0), some (.int x1), some (.int x2)] [.int v1.1] v1.2 0 0
  refine Go.if_eq (off := 5) (tgt := 35) (by decide +kernel) (by decide) (fun c3 => ?_) (fun c3 => ?_)
  · replace e := ite_t c3 e
    refine Go.run (pc' := 36) [.aload_n 0] (ls' := [some (.ref a0), some (.int x1), some (.int x2)]) (st' := [.ref a0]) (by decide +kernel) rfl rfl ?_
    refine Go.getR fo_M_7 k0 (by decide +kernel) ?_
    refine Go.run (pc' := 40) [.aload_n 0] (ls' := [some (.ref a0), some (.int x1), some (.int x2)]) (st' := [.ref a0, .ref (fld a0 1)]) (by decide +kernel) rfl rfl ?_
    refine Go.getR fo_M_13 k0 (by decide +kernel) ?_
    obtain ⟨v4, e5, e⟩ := bd_inv e
    refine Go.callS (M2 := m_M_copy) (as := [.ref (fld a0 1), .ref (fld a0 2)]) (rest := []) (v := none) (h1 := v4) (x_M_copy hf hI (kf_8_j 1 k0 (by decide) (by decide)) (al_8_j 1 k0 (by decide) (by decide) rfl) (kf_8_j 2 k0 (by decide) (by decide)) (al_8_j 2 k0 (by decide) (by decide) rfl) e5) ws_M_227 (by decide +kernel) rfl rfl ⟨⟨Nat.le_of_ble_eq_true rfl, Nat.le_of_ble_eq_true rfl⟩, ⟨Nat.le_of_ble_eq_true rfl, Nat.le_of_ble_eq_true rfl⟩⟩ (Nat.le_of_ble_eq_true rfl) ?_
    show Go l D ad aC (rmk m_M_why) _ m_M_why 46 [some (.ref a0), some (.int x1), some (.int x2)] [] v4 0 0
    refine Go.run (pc' := 47) [.aload_n 0] (ls' := [some (.ref a0), some (.int x1), some (.int x2)]) (st' := [.ref a0]) (by decide +kernel) rfl rfl ?_
    refine Go.getR fo_M_13 k0 (by decide +kernel) ?_
    refine Go.run (pc' := 52) [.iload_n 1, .iload_n 2] (ls' := [some (.ref a0), some (.int x1), some (.int x2)]) (st' := [.int x2, .int x1, .ref (fld a0 2)]) (by decide +kernel) rfl rfl ?_
    obtain ⟨v6, e7, e⟩ := bd_inv e
    refine Go.callS (M2 := m_M_whyNoSwap) (as := [.ref (fld a0 2), .int x1, .int x2]) (rest := []) (v := some (.int v6.1)) (h1 := v6.2) (x_M_whyNoSwap hf hI (kf_8_j 2 k0 (by decide) (by decide)) (al_8_j 2 k0 (by decide) (by decide) rfl) e7) ws_M_127 (by decide +kernel) rfl rfl ⟨⟨Nat.le_of_ble_eq_true rfl, Nat.le_of_ble_eq_true rfl⟩, ⟨Nat.le_of_ble_eq_true rfl, Nat.le_of_ble_eq_true rfl⟩⟩ (Nat.le_of_ble_eq_true rfl) ?_
    show Go l D ad aC (rmk m_M_why) _ m_M_why 55 [some (.ref a0), some (.int x1), some (.int x2)] [.int v6.1] v6.2 0 0
    obtain rfl := Option.some.inj e
    exact Go.iret rfl (by decide) (by decide) (by decide +kernel)
  · replace e := ite_f c3 e
    refine Go.run (pc' := 34) [.iconst 0] (ls' := [some (.ref a0), some (.int x1), some (.int x2)]) (st' := [.int (0 : Int32)]) (by decide +kernel) rfl rfl ?_
    obtain rfl := Option.some.inj e
    exact Go.iret rfl (by decide) (by decide) (by decide +kernel)
def f_M_why (h : HP) (a0 : Nat) (x1 : Int32) (x2 : Int32) : Option (Int32 × HP) :=
  (f_M_areDealers h (fld a0 1) x1 x2).bind fun v1 =>
  if v1 = 0 then
    f_M_why_27 a0 x1 x2 a0 (1 : Int32) h
  else
    if x1 = x2 then
      f_M_why_27 a0 x1 x2 a0 (2 : Int32) h
    else
      f_M_why_27 a0 x1 x2 a0 (0 : Int32) h
set_option maxHeartbeats 1000000 in
theorem x_M_why {l : Launch} {D : va_G} {ad : Nat → Nat} {aC : Nat → ClassId} (hf : l.flags = flags0) (hI : Inj ad) {h : HP} {a0 : Nat} {x1 : Int32} {x2 : Int32} {r : Int32 × HP} (k0 : knd a0 = 8) (e : f_M_why h a0 x1 x2 = some r) : CT l D ad aC m_M_why [.ref a0, .int x1, .int x2] h (.inl (some (.int r.1))) r.2 := by
  refine CT.ofGo (by decide +kernel) rfl (Nat.le_of_ble_eq_true rfl) ?_
  unfold f_M_why at e
  show Go l D ad aC (rmk m_M_why) _ m_M_why 0 [some (.ref a0), some (.int x1), some (.int x2)] [] h 0 0
  refine Go.run (pc' := 2) [.aload_n 0, .aload_n 0] (ls' := [some (.ref a0), some (.int x1), some (.int x2)]) (st' := [.ref a0, .ref a0]) (by decide +kernel) rfl rfl ?_
  refine Go.getR fo_M_7 k0 (by decide +kernel) ?_
  refine Go.run (pc' := 7) [.iload_n 1, .iload_n 2] (ls' := [some (.ref a0), some (.int x1), some (.int x2)]) (st' := [.int x2, .int x1, .ref (fld a0 1), .ref a0]) (by decide +kernel) rfl rfl ?_
  obtain ⟨v1, e2, e⟩ := bd_inv e
  refine Go.callS (M2 := m_M_areDealers) (as := [.ref (fld a0 1), .int x1, .int x2]) (rest := [.ref a0]) (v := some (.int v1)) (h1 := h) (x_M_areDealers hf hI (kf_8_j 1 k0 (by decide) (by decide)) (al_8_j 1 k0 (by decide) (by decide) rfl) e2) ws_M_275 (by decide +kernel) rfl rfl ⟨⟨Nat.le_of_ble_eq_true rfl, Nat.le_of_ble_eq_true rfl⟩, ⟨Nat.le_of_ble_eq_true rfl, Nat.le_of_ble_eq_true rfl⟩⟩ (Nat.le_of_ble_eq_true rfl) ?_
  show Go l D ad aC (rmk m_M_why) _ m_M_why 10 [some (.ref a0), some (.int x1), some (.int x2)] [.int v1, .ref a0] h 0 0
  refine Go.if_ne (off := 7) (tgt := 17) (by decide +kernel) (by decide) (fun c3 => ?_) (fun c3 => ?_)
  · replace e := ite_f c3 e
    refine Go.run (pc' := 19) [.iload_n 1, .iload_n 2] (ls' := [some (.ref a0), some (.int x1), some (.int x2)]) (st' := [.int x2, .int x1, .ref a0]) (by decide +kernel) rfl rfl ?_
    refine Go.ic_ne (off := 7) (tgt := 26) (by decide +kernel) (by decide) (fun c4 => ?_) (fun c4 => ?_)
    · replace e := ite_f c4 e
      refine Go.run (pc' := 27) [.iconst 0] (ls' := [some (.ref a0), some (.int x1), some (.int x2)]) (st' := [.int (0 : Int32), .ref a0]) (by decide +kernel) rfl rfl ?_
      exact x_M_why_27 hf hI k0 k0 e
    · replace e := ite_t c4 e
      refine Go.run (pc' := 23) [.iconst 2] (ls' := [some (.ref a0), some (.int x1), some (.int x2)]) (st' := [.int (2 : Int32), .ref a0]) (by decide +kernel) rfl rfl ?_
      refine Go.goto (off := 4) (tgt := 27) (by decide +kernel) (by decide) ?_
      exact x_M_why_27 hf hI k0 k0 e
  · replace e := ite_t c3 e
    refine Go.run (pc' := 14) [.iconst 1] (ls' := [some (.ref a0), some (.int x1), some (.int x2)]) (st' := [.int (1 : Int32), .ref a0]) (by decide +kernel) rfl rfl ?_
    refine Go.goto (off := 13) (tgt := 27) (by decide +kernel) (by decide) ?_
    exact x_M_why_27 hf hI k0 k0 e
def f_M_runPlace (h : HP) (a0 : Nat) (x1 : Int32) (x2 : Int32) (x3 : Int32) : Option (Int32 × HP) :=
  (f_M_isDealer h (fld a0 2) x1).bind fun v1 =>
  if v1 = 0 then
    some ((0 : Int32), h)
  else
    (f_M_isMetre h (fld a0 2) x2 x3).bind fun v4 =>
    if v4 = 0 then
      some ((0 : Int32), h)
    else
      (f_M_goPlace h (fld a0 2) x1 x2 x3).bind fun v7 =>
      if v7.1 = 0 then
        some ((1 : Int32), v7.2)
      else
        some ((0 : Int32), v7.2)
set_option maxHeartbeats 1000000 in
theorem x_M_runPlace {l : Launch} {D : va_G} {ad : Nat → Nat} {aC : Nat → ClassId} (hf : l.flags = flags0) (hI : Inj ad) {h : HP} {a0 : Nat} {x1 : Int32} {x2 : Int32} {x3 : Int32} {r : Int32 × HP} (k0 : knd a0 = 8) (e : f_M_runPlace h a0 x1 x2 x3 = some r) : CT l D ad aC m_M_runPlace [.ref a0, .int x1, .int x2, .int x3] h (.inl (some (.int r.1))) r.2 := by
  refine CT.ofGo (by decide +kernel) rfl (Nat.le_of_ble_eq_true rfl) ?_
  unfold f_M_runPlace at e
  show Go l D ad aC (rmk m_M_runPlace) _ m_M_runPlace 0 [some (.ref a0), some (.int x1), some (.int x2), some (.int x3)] [] h 0 0
  refine Go.run (pc' := 1) [.aload_n 0] (ls' := [some (.ref a0), some (.int x1), some (.int x2), some (.int x3)]) (st' := [.ref a0]) (by decide +kernel) rfl rfl ?_
  refine Go.getR fo_M_13 k0 (by decide +kernel) ?_
  refine Go.run (pc' := 5) [.iload_n 1] (ls' := [some (.ref a0), some (.int x1), some (.int x2), some (.int x3)]) (st' := [.int x1, .ref (fld a0 2)]) (by decide +kernel) rfl rfl ?_
  obtain ⟨v1, e2, e⟩ := bd_inv e
  refine Go.callS (M2 := m_M_isDealer) (as := [.ref (fld a0 2), .int x1]) (rest := []) (v := some (.int v1)) (h1 := h) (x_M_isDealer hf hI (kf_8_j 2 k0 (by decide) (by decide)) (al_8_j 2 k0 (by decide) (by decide) rfl) e2) ws_M_184 (by decide +kernel) rfl rfl ⟨⟨Nat.le_of_ble_eq_true rfl, Nat.le_of_ble_eq_true rfl⟩, ⟨Nat.le_of_ble_eq_true rfl, Nat.le_of_ble_eq_true rfl⟩⟩ (Nat.le_of_ble_eq_true rfl) ?_
  show Go l D ad aC (rmk m_M_runPlace) _ m_M_runPlace 8 [some (.ref a0), some (.int x1), some (.int x2), some (.int x3)] [.int v1] h 0 0
  refine Go.if_eq (off := 32) (tgt := 40) (by decide +kernel) (by decide) (fun c3 => ?_) (fun c3 => ?_)
  · replace e := ite_t c3 e
    refine Go.run (pc' := 41) [.iconst 0] (ls' := [some (.ref a0), some (.int x1), some (.int x2), some (.int x3)]) (st' := [.int (0 : Int32)]) (by decide +kernel) rfl rfl ?_
    obtain rfl := Option.some.inj e
    exact Go.zret rfl nar_z0 (by decide) (by decide) (by decide +kernel)
  · replace e := ite_f c3 e
    refine Go.run (pc' := 12) [.aload_n 0] (ls' := [some (.ref a0), some (.int x1), some (.int x2), some (.int x3)]) (st' := [.ref a0]) (by decide +kernel) rfl rfl ?_
    refine Go.getR fo_M_13 k0 (by decide +kernel) ?_
    refine Go.run (pc' := 17) [.iload_n 2, .iload_n 3] (ls' := [some (.ref a0), some (.int x1), some (.int x2), some (.int x3)]) (st' := [.int x3, .int x2, .ref (fld a0 2)]) (by decide +kernel) rfl rfl ?_
    obtain ⟨v4, e5, e⟩ := bd_inv e
    refine Go.callS (M2 := m_M_isMetre) (as := [.ref (fld a0 2), .int x2, .int x3]) (rest := []) (v := some (.int v4)) (h1 := h) (x_M_isMetre hf hI (kf_8_j 2 k0 (by decide) (by decide)) (al_8_j 2 k0 (by decide) (by decide) rfl) e5) ws_M_171 (by decide +kernel) rfl rfl ⟨⟨Nat.le_of_ble_eq_true rfl, Nat.le_of_ble_eq_true rfl⟩, ⟨Nat.le_of_ble_eq_true rfl, Nat.le_of_ble_eq_true rfl⟩⟩ (Nat.le_of_ble_eq_true rfl) ?_
    show Go l D ad aC (rmk m_M_runPlace) _ m_M_runPlace 20 [some (.ref a0), some (.int x1), some (.int x2), some (.int x3)] [.int v4] h 0 0
    refine Go.if_eq (off := 20) (tgt := 40) (by decide +kernel) (by decide) (fun c6 => ?_) (fun c6 => ?_)
    · replace e := ite_t c6 e
      refine Go.run (pc' := 41) [.iconst 0] (ls' := [some (.ref a0), some (.int x1), some (.int x2), some (.int x3)]) (st' := [.int (0 : Int32)]) (by decide +kernel) rfl rfl ?_
      obtain rfl := Option.some.inj e
      exact Go.zret rfl nar_z0 (by decide) (by decide) (by decide +kernel)
    · replace e := ite_f c6 e
      refine Go.run (pc' := 24) [.aload_n 0] (ls' := [some (.ref a0), some (.int x1), some (.int x2), some (.int x3)]) (st' := [.ref a0]) (by decide +kernel) rfl rfl ?_
      refine Go.getR fo_M_13 k0 (by decide +kernel) ?_
      refine Go.run (pc' := 30) [.iload_n 1, .iload_n 2, .iload_n 3] (ls' := [some (.ref a0), some (.int x1), some (.int x2), some (.int x3)]) (st' := [.int x3, .int x2, .int x1, .ref (fld a0 2)]) (by decide +kernel) rfl rfl ?_
      obtain ⟨v7, e8, e⟩ := bd_inv e
      refine Go.callS (M2 := m_M_goPlace) (as := [.ref (fld a0 2), .int x1, .int x2, .int x3]) (rest := []) (v := some (.int v7.1)) (h1 := v7.2) (x_M_goPlace hf hI (kf_8_j 2 k0 (by decide) (by decide)) (al_8_j 2 k0 (by decide) (by decide) rfl) e8) ws_M_187 (by decide +kernel) rfl rfl ⟨⟨Nat.le_of_ble_eq_true rfl, Nat.le_of_ble_eq_true rfl⟩, ⟨Nat.le_of_ble_eq_true rfl, Nat.le_of_ble_eq_true rfl⟩⟩ (Nat.le_of_ble_eq_true rfl) ?_
      show Go l D ad aC (rmk m_M_runPlace) _ m_M_runPlace 33 [some (.ref a0), some (.int x1), some (.int x2), some (.int x3)] [.int v7.1] v7.2 0 0
      refine Go.if_ne (off := 7) (tgt := 40) (by decide +kernel) (by decide) (fun c9 => ?_) (fun c9 => ?_)
      · replace e := ite_f c9 e
        refine Go.run (pc' := 41) [.iconst 0] (ls' := [some (.ref a0), some (.int x1), some (.int x2), some (.int x3)]) (st' := [.int (0 : Int32)]) (by decide +kernel) rfl rfl ?_
        obtain rfl := Option.some.inj e
        exact Go.zret rfl nar_z0 (by decide) (by decide) (by decide +kernel)
      · replace e := ite_t c9 e
        refine Go.run (pc' := 37) [.iconst 1] (ls' := [some (.ref a0), some (.int x1), some (.int x2), some (.int x3)]) (st' := [.int (1 : Int32)]) (by decide +kernel) rfl rfl ?_
        refine Go.goto (off := 4) (tgt := 41) (by decide +kernel) (by decide) ?_
        obtain rfl := Option.some.inj e
        exact Go.zret rfl nar_z1 (by decide) (by decide) (by decide +kernel)
def f_M_runSwap (h : HP) (a0 : Nat) (x1 : Int32) (x2 : Int32) : Option (Int32 × HP) :=
  (f_M_areDealers h (fld a0 2) x1 x2).bind fun v1 =>
  if v1 = 0 then
    some ((0 : Int32), h)
  else
    if x1 = x2 then
      some ((0 : Int32), h)
    else
      (f_M_goSwap h (fld a0 2) x1 x2).bind fun v5 =>
      if v5.1 = 0 then
        some ((1 : Int32), v5.2)
      else
        some ((0 : Int32), v5.2)
set_option maxHeartbeats 1000000 in
theorem x_M_runSwap {l : Launch} {D : va_G} {ad : Nat → Nat} {aC : Nat → ClassId} (hf : l.flags = flags0) (hI : Inj ad) {h : HP} {a0 : Nat} {x1 : Int32} {x2 : Int32} {r : Int32 × HP} (k0 : knd a0 = 8) (e : f_M_runSwap h a0 x1 x2 = some r) : CT l D ad aC m_M_runSwap [.ref a0, .int x1, .int x2] h (.inl (some (.int r.1))) r.2 := by
  refine CT.ofGo (by decide +kernel) rfl (Nat.le_of_ble_eq_true rfl) ?_
  unfold f_M_runSwap at e
  show Go l D ad aC (rmk m_M_runSwap) _ m_M_runSwap 0 [some (.ref a0), some (.int x1), some (.int x2)] [] h 0 0
  refine Go.run (pc' := 1) [.aload_n 0] (ls' := [some (.ref a0), some (.int x1), some (.int x2)]) (st' := [.ref a0]) (by decide +kernel) rfl rfl ?_
  refine Go.getR fo_M_13 k0 (by decide +kernel) ?_
  refine Go.run (pc' := 6) [.iload_n 1, .iload_n 2] (ls' := [some (.ref a0), some (.int x1), some (.int x2)]) (st' := [.int x2, .int x1, .ref (fld a0 2)]) (by decide +kernel) rfl rfl ?_
  obtain ⟨v1, e2, e⟩ := bd_inv e
  refine Go.callS (M2 := m_M_areDealers) (as := [.ref (fld a0 2), .int x1, .int x2]) (rest := []) (v := some (.int v1)) (h1 := h) (x_M_areDealers hf hI (kf_8_j 2 k0 (by decide) (by decide)) (al_8_j 2 k0 (by decide) (by decide) rfl) e2) ws_M_275 (by decide +kernel) rfl rfl ⟨⟨Nat.le_of_ble_eq_true rfl, Nat.le_of_ble_eq_true rfl⟩, ⟨Nat.le_of_ble_eq_true rfl, Nat.le_of_ble_eq_true rfl⟩⟩ (Nat.le_of_ble_eq_true rfl) ?_
  show Go l D ad aC (rmk m_M_runSwap) _ m_M_runSwap 9 [some (.ref a0), some (.int x1), some (.int x2)] [.int v1] h 0 0
  refine Go.if_eq (off := 24) (tgt := 33) (by decide +kernel) (by decide) (fun c3 => ?_) (fun c3 => ?_)
  · replace e := ite_t c3 e
    refine Go.run (pc' := 34) [.iconst 0] (ls' := [some (.ref a0), some (.int x1), some (.int x2)]) (st' := [.int (0 : Int32)]) (by decide +kernel) rfl rfl ?_
    obtain rfl := Option.some.inj e
    exact Go.zret rfl nar_z0 (by decide) (by decide) (by decide +kernel)
  · replace e := ite_f c3 e
    refine Go.run (pc' := 14) [.iload_n 1, .iload_n 2] (ls' := [some (.ref a0), some (.int x1), some (.int x2)]) (st' := [.int x2, .int x1]) (by decide +kernel) rfl rfl ?_
    refine Go.ic_eq (off := 19) (tgt := 33) (by decide +kernel) (by decide) (fun c4 => ?_) (fun c4 => ?_)
    · replace e := ite_t c4 e
      refine Go.run (pc' := 34) [.iconst 0] (ls' := [some (.ref a0), some (.int x1), some (.int x2)]) (st' := [.int (0 : Int32)]) (by decide +kernel) rfl rfl ?_
      obtain rfl := Option.some.inj e
      exact Go.zret rfl nar_z0 (by decide) (by decide) (by decide +kernel)
    · replace e := ite_f c4 e
      refine Go.run (pc' := 18) [.aload_n 0] (ls' := [some (.ref a0), some (.int x1), some (.int x2)]) (st' := [.ref a0]) (by decide +kernel) rfl rfl ?_
      refine Go.getR fo_M_13 k0 (by decide +kernel) ?_
      refine Go.run (pc' := 23) [.iload_n 1, .iload_n 2] (ls' := [some (.ref a0), some (.int x1), some (.int x2)]) (st' := [.int x2, .int x1, .ref (fld a0 2)]) (by decide +kernel) rfl rfl ?_
      obtain ⟨v5, e6, e⟩ := bd_inv e
      refine Go.callS (M2 := m_M_goSwap) (as := [.ref (fld a0 2), .int x1, .int x2]) (rest := []) (v := some (.int v5.1)) (h1 := v5.2) (x_M_goSwap hf hI (kf_8_j 2 k0 (by decide) (by decide)) (al_8_j 2 k0 (by decide) (by decide) rfl) e6) ws_M_190 (by decide +kernel) rfl rfl ⟨⟨Nat.le_of_ble_eq_true rfl, Nat.le_of_ble_eq_true rfl⟩, ⟨Nat.le_of_ble_eq_true rfl, Nat.le_of_ble_eq_true rfl⟩⟩ (Nat.le_of_ble_eq_true rfl) ?_
      show Go l D ad aC (rmk m_M_runSwap) _ m_M_runSwap 26 [some (.ref a0), some (.int x1), some (.int x2)] [.int v5.1] v5.2 0 0
      refine Go.if_ne (off := 7) (tgt := 33) (by decide +kernel) (by decide) (fun c7 => ?_) (fun c7 => ?_)
      · replace e := ite_f c7 e
        refine Go.run (pc' := 34) [.iconst 0] (ls' := [some (.ref a0), some (.int x1), some (.int x2)]) (st' := [.int (0 : Int32)]) (by decide +kernel) rfl rfl ?_
        obtain rfl := Option.some.inj e
        exact Go.zret rfl nar_z0 (by decide) (by decide) (by decide +kernel)
      · replace e := ite_t c7 e
        refine Go.run (pc' := 30) [.iconst 1] (ls' := [some (.ref a0), some (.int x1), some (.int x2)]) (st' := [.int (1 : Int32)]) (by decide +kernel) rfl rfl ?_
        refine Go.goto (off := 4) (tgt := 34) (by decide +kernel) (by decide) ?_
        obtain rfl := Option.some.inj e
        exact Go.zret rfl nar_z1 (by decide) (by decide) (by decide +kernel)
def f_M_runLeave (h : HP) (a0 : Nat) (x1 : Int32) : Option (Int32 × HP) :=
  (f_M_isDealer h (fld a0 2) x1).bind fun v1 =>
  if v1 = 0 then
    some ((0 : Int32), h)
  else
    (f_M_stands h (fld a0 2) x1).bind fun v4 =>
    if v4 = 0 then
      some ((0 : Int32), h)
    else
      (f_M_goLeave h (fld a0 2) x1).bind fun v7 =>
      if v7.1 < 0 then
        some ((0 : Int32), v7.2)
      else
        some ((1 : Int32), v7.2)
set_option maxHeartbeats 1000000 in
theorem x_M_runLeave {l : Launch} {D : va_G} {ad : Nat → Nat} {aC : Nat → ClassId} (hf : l.flags = flags0) (hI : Inj ad) {h : HP} {a0 : Nat} {x1 : Int32} {r : Int32 × HP} (k0 : knd a0 = 8) (e : f_M_runLeave h a0 x1 = some r) : CT l D ad aC m_M_runLeave [.ref a0, .int x1] h (.inl (some (.int r.1))) r.2 := by
  refine CT.ofGo (by decide +kernel) rfl (Nat.le_of_ble_eq_true rfl) ?_
  unfold f_M_runLeave at e
  show Go l D ad aC (rmk m_M_runLeave) _ m_M_runLeave 0 [some (.ref a0), some (.int x1)] [] h 0 0
  refine Go.run (pc' := 1) [.aload_n 0] (ls' := [some (.ref a0), some (.int x1)]) (st' := [.ref a0]) (by decide +kernel) rfl rfl ?_
  refine Go.getR fo_M_13 k0 (by decide +kernel) ?_
  refine Go.run (pc' := 5) [.iload_n 1] (ls' := [some (.ref a0), some (.int x1)]) (st' := [.int x1, .ref (fld a0 2)]) (by decide +kernel) rfl rfl ?_
  obtain ⟨v1, e2, e⟩ := bd_inv e
  refine Go.callS (M2 := m_M_isDealer) (as := [.ref (fld a0 2), .int x1]) (rest := []) (v := some (.int v1)) (h1 := h) (x_M_isDealer hf hI (kf_8_j 2 k0 (by decide) (by decide)) (al_8_j 2 k0 (by decide) (by decide) rfl) e2) ws_M_184 (by decide +kernel) rfl rfl ⟨⟨Nat.le_of_ble_eq_true rfl, Nat.le_of_ble_eq_true rfl⟩, ⟨Nat.le_of_ble_eq_true rfl, Nat.le_of_ble_eq_true rfl⟩⟩ (Nat.le_of_ble_eq_true rfl) ?_
  show Go l D ad aC (rmk m_M_runLeave) _ m_M_runLeave 8 [some (.ref a0), some (.int x1)] [.int v1] h 0 0
  refine Go.if_eq (off := 29) (tgt := 37) (by decide +kernel) (by decide) (fun c3 => ?_) (fun c3 => ?_)
  · replace e := ite_t c3 e
    refine Go.run (pc' := 38) [.iconst 0] (ls' := [some (.ref a0), some (.int x1)]) (st' := [.int (0 : Int32)]) (by decide +kernel) rfl rfl ?_
    obtain rfl := Option.some.inj e
    exact Go.zret rfl nar_z0 (by decide) (by decide) (by decide +kernel)
  · replace e := ite_f c3 e
    refine Go.run (pc' := 12) [.aload_n 0] (ls' := [some (.ref a0), some (.int x1)]) (st' := [.ref a0]) (by decide +kernel) rfl rfl ?_
    refine Go.getR fo_M_13 k0 (by decide +kernel) ?_
    refine Go.run (pc' := 16) [.iload_n 1] (ls' := [some (.ref a0), some (.int x1)]) (st' := [.int x1, .ref (fld a0 2)]) (by decide +kernel) rfl rfl ?_
    obtain ⟨v4, e5, e⟩ := bd_inv e
    refine Go.callS (M2 := m_M_stands) (as := [.ref (fld a0 2), .int x1]) (rest := []) (v := some (.int v4)) (h1 := h) (x_M_stands hf hI (kf_8_j 2 k0 (by decide) (by decide)) (al_8_j 2 k0 (by decide) (by decide) rfl) e5) ws_M_89 (by decide +kernel) rfl rfl ⟨⟨Nat.le_of_ble_eq_true rfl, Nat.le_of_ble_eq_true rfl⟩, ⟨Nat.le_of_ble_eq_true rfl, Nat.le_of_ble_eq_true rfl⟩⟩ (Nat.le_of_ble_eq_true rfl) ?_
    show Go l D ad aC (rmk m_M_runLeave) _ m_M_runLeave 19 [some (.ref a0), some (.int x1)] [.int v4] h 0 0
    refine Go.if_eq (off := 18) (tgt := 37) (by decide +kernel) (by decide) (fun c6 => ?_) (fun c6 => ?_)
    · replace e := ite_t c6 e
      refine Go.run (pc' := 38) [.iconst 0] (ls' := [some (.ref a0), some (.int x1)]) (st' := [.int (0 : Int32)]) (by decide +kernel) rfl rfl ?_
      obtain rfl := Option.some.inj e
      exact Go.zret rfl nar_z0 (by decide) (by decide) (by decide +kernel)
    · replace e := ite_f c6 e
      refine Go.run (pc' := 23) [.aload_n 0] (ls' := [some (.ref a0), some (.int x1)]) (st' := [.ref a0]) (by decide +kernel) rfl rfl ?_
      refine Go.getR fo_M_13 k0 (by decide +kernel) ?_
      refine Go.run (pc' := 27) [.iload_n 1] (ls' := [some (.ref a0), some (.int x1)]) (st' := [.int x1, .ref (fld a0 2)]) (by decide +kernel) rfl rfl ?_
      obtain ⟨v7, e8, e⟩ := bd_inv e
      refine Go.callS (M2 := m_M_goLeave) (as := [.ref (fld a0 2), .int x1]) (rest := []) (v := some (.int v7.1)) (h1 := v7.2) (x_M_goLeave hf hI (kf_8_j 2 k0 (by decide) (by decide)) (al_8_j 2 k0 (by decide) (by decide) rfl) e8) ws_M_196 (by decide +kernel) rfl rfl ⟨⟨Nat.le_of_ble_eq_true rfl, Nat.le_of_ble_eq_true rfl⟩, ⟨Nat.le_of_ble_eq_true rfl, Nat.le_of_ble_eq_true rfl⟩⟩ (Nat.le_of_ble_eq_true rfl) ?_
      show Go l D ad aC (rmk m_M_runLeave) _ m_M_runLeave 30 [some (.ref a0), some (.int x1)] [.int v7.1] v7.2 0 0
      refine Go.if_lt (off := 7) (tgt := 37) (by decide +kernel) (by decide) (fun c9 => ?_) (fun c9 => ?_)
      · replace e := ite_t c9 e
        refine Go.run (pc' := 38) [.iconst 0] (ls' := [some (.ref a0), some (.int x1)]) (st' := [.int (0 : Int32)]) (by decide +kernel) rfl rfl ?_
        obtain rfl := Option.some.inj e
        exact Go.zret rfl nar_z0 (by decide) (by decide) (by decide +kernel)
      · replace e := ite_f c9 e
        refine Go.run (pc' := 34) [.iconst 1] (ls' := [some (.ref a0), some (.int x1)]) (st' := [.int (1 : Int32)]) (by decide +kernel) rfl rfl ?_
        refine Go.goto (off := 4) (tgt := 38) (by decide +kernel) (by decide) ?_
        obtain rfl := Option.some.inj e
        exact Go.zret rfl nar_z1 (by decide) (by decide) (by decide +kernel)
def f_M_runDays (h : HP) (a0 : Nat) (x1 : Int32) : Option (Int32 × HP) :=
  (f_M_in h x1.toInt64 (1 : Int64) (60 : Int64)).bind fun v1 =>
  if v1 = 0 then
    some ((0 : Int32), h)
  else
    (f_M_goDays h a0 (fld a0 2) x1).bind fun v4 =>
    if v4.1 < 0 then
      some ((0 : Int32), v4.2)
    else
      some ((1 : Int32), v4.2)
set_option maxHeartbeats 1000000 in
theorem x_M_runDays {l : Launch} {D : va_G} {ad : Nat → Nat} {aC : Nat → ClassId} (hf : l.flags = flags0) (hI : Inj ad) {h : HP} {a0 : Nat} {x1 : Int32} {r : Int32 × HP} (k0 : knd a0 = 8) (e : f_M_runDays h a0 x1 = some r) : CT l D ad aC m_M_runDays [.ref a0, .int x1] h (.inl (some (.int r.1))) r.2 := by
  refine CT.ofGo (by decide +kernel) rfl (Nat.le_of_ble_eq_true rfl) ?_
  unfold f_M_runDays at e
  show Go l D ad aC (rmk m_M_runDays) _ m_M_runDays 0 [some (.ref a0), some (.int x1)] [] h 0 0
  refine Go.run (pc' := 3) [.iload_n 1, .i2l, .lconst 1] (ls' := [some (.ref a0), some (.int x1)]) (st' := [.long (1 : Int64), .long x1.toInt64]) (by decide +kernel) rfl rfl ?_
  refine Go.ldc2 lo_M_278 (by decide +kernel) ?_
  obtain ⟨v1, e2, e⟩ := bd_inv e
  refine Go.callS (M2 := m_M_in) (as := [.long x1.toInt64, .long (1 : Int64), .long (60 : Int64)]) (rest := []) (v := some (.int v1)) (h1 := h) (x_M_in hf hI  e2) ws_M_51 (by decide +kernel) rfl rfl ⟨⟨Nat.le_of_ble_eq_true rfl, Nat.le_of_ble_eq_true rfl⟩, ⟨Nat.le_of_ble_eq_true rfl, Nat.le_of_ble_eq_true rfl⟩⟩ (Nat.le_of_ble_eq_true rfl) ?_
  show Go l D ad aC (rmk m_M_runDays) _ m_M_runDays 9 [some (.ref a0), some (.int x1)] [.int v1] h 0 0
  refine Go.if_eq (off := 19) (tgt := 28) (by decide +kernel) (by decide) (fun c3 => ?_) (fun c3 => ?_)
  · replace e := ite_t c3 e
    refine Go.run (pc' := 29) [.iconst 0] (ls' := [some (.ref a0), some (.int x1)]) (st' := [.int (0 : Int32)]) (by decide +kernel) rfl rfl ?_
    obtain rfl := Option.some.inj e
    exact Go.zret rfl nar_z0 (by decide) (by decide) (by decide +kernel)
  · replace e := ite_f c3 e
    refine Go.run (pc' := 14) [.aload_n 0, .aload_n 0] (ls' := [some (.ref a0), some (.int x1)]) (st' := [.ref a0, .ref a0]) (by decide +kernel) rfl rfl ?_
    refine Go.getR fo_M_13 k0 (by decide +kernel) ?_
    refine Go.run (pc' := 18) [.iload_n 1] (ls' := [some (.ref a0), some (.int x1)]) (st' := [.int x1, .ref (fld a0 2), .ref a0]) (by decide +kernel) rfl rfl ?_
    obtain ⟨v4, e5, e⟩ := bd_inv e
    refine Go.callV (M2 := m_M_goDays) (a := a0) (as := [.ref (fld a0 2), .int x1]) (rest := []) (v := some (.int v4.1)) (h1 := v4.2) (x_M_goDays hf hI k0 (kf_8_j 2 k0 (by decide) (by decide)) (al_8_j 2 k0 (by decide) (by decide) rfl) e5) wv_M_199 k0 kc_8 (by decide +kernel) rfl rfl ⟨⟨Nat.le_of_ble_eq_true rfl, Nat.le_of_ble_eq_true rfl⟩, ⟨Nat.le_of_ble_eq_true rfl, Nat.le_of_ble_eq_true rfl⟩⟩ (Nat.le_of_ble_eq_true rfl) ?_
    show Go l D ad aC (rmk m_M_runDays) _ m_M_runDays 21 [some (.ref a0), some (.int x1)] [.int v4.1] v4.2 0 0
    refine Go.if_lt (off := 7) (tgt := 28) (by decide +kernel) (by decide) (fun c6 => ?_) (fun c6 => ?_)
    · replace e := ite_t c6 e
      refine Go.run (pc' := 29) [.iconst 0] (ls' := [some (.ref a0), some (.int x1)]) (st' := [.int (0 : Int32)]) (by decide +kernel) rfl rfl ?_
      obtain rfl := Option.some.inj e
      exact Go.zret rfl nar_z0 (by decide) (by decide) (by decide +kernel)
    · replace e := ite_f c6 e
      refine Go.run (pc' := 25) [.iconst 1] (ls' := [some (.ref a0), some (.int x1)]) (st' := [.int (1 : Int32)]) (by decide +kernel) rfl rfl ?_
      refine Go.goto (off := 4) (tgt := 29) (by decide +kernel) (by decide) ?_
      obtain rfl := Option.some.inj e
      exact Go.zret rfl nar_z1 (by decide) (by decide) (by decide +kernel)
def f_M_runSet (h : HP) (a0 : Nat) (x1 : Int32) (x2 : Int32) : Option (Int32 × HP) :=
  (f_M_isSetting h x1 x2).bind fun v1 =>
  if v1 = 0 then
    some ((0 : Int32), h)
  else
    (f_M_put h (fld a0 2) ((190 : Int32) + x1) x2).bind fun v4 =>
    if v4.1 < 0 then
      some ((0 : Int32), v4.2)
    else
      some ((1 : Int32), v4.2)
set_option maxHeartbeats 1000000 in
theorem x_M_runSet {l : Launch} {D : va_G} {ad : Nat → Nat} {aC : Nat → ClassId} (hf : l.flags = flags0) (hI : Inj ad) {h : HP} {a0 : Nat} {x1 : Int32} {x2 : Int32} {r : Int32 × HP} (k0 : knd a0 = 8) (e : f_M_runSet h a0 x1 x2 = some r) : CT l D ad aC m_M_runSet [.ref a0, .int x1, .int x2] h (.inl (some (.int r.1))) r.2 := by
  refine CT.ofGo (by decide +kernel) rfl (Nat.le_of_ble_eq_true rfl) ?_
  unfold f_M_runSet at e
  show Go l D ad aC (rmk m_M_runSet) _ m_M_runSet 0 [some (.ref a0), some (.int x1), some (.int x2)] [] h 0 0
  refine Go.run (pc' := 2) [.iload_n 1, .iload_n 2] (ls' := [some (.ref a0), some (.int x1), some (.int x2)]) (st' := [.int x2, .int x1]) (by decide +kernel) rfl rfl ?_
  obtain ⟨v1, e2, e⟩ := bd_inv e
  refine Go.callS (M2 := m_M_isSetting) (as := [.int x1, .int x2]) (rest := []) (v := some (.int v1)) (h1 := h) (x_M_isSetting hf hI  e2) ws_M_202 (by decide +kernel) rfl rfl ⟨⟨Nat.le_of_ble_eq_true rfl, Nat.le_of_ble_eq_true rfl⟩, ⟨Nat.le_of_ble_eq_true rfl, Nat.le_of_ble_eq_true rfl⟩⟩ (Nat.le_of_ble_eq_true rfl) ?_
  show Go l D ad aC (rmk m_M_runSet) _ m_M_runSet 5 [some (.ref a0), some (.int x1), some (.int x2)] [.int v1] h 0 0
  refine Go.if_eq (off := 23) (tgt := 28) (by decide +kernel) (by decide) (fun c3 => ?_) (fun c3 => ?_)
  · replace e := ite_t c3 e
    refine Go.run (pc' := 29) [.iconst 0] (ls' := [some (.ref a0), some (.int x1), some (.int x2)]) (st' := [.int (0 : Int32)]) (by decide +kernel) rfl rfl ?_
    obtain rfl := Option.some.inj e
    exact Go.zret rfl nar_z0 (by decide) (by decide) (by decide +kernel)
  · replace e := ite_f c3 e
    refine Go.run (pc' := 9) [.aload_n 0] (ls' := [some (.ref a0), some (.int x1), some (.int x2)]) (st' := [.ref a0]) (by decide +kernel) rfl rfl ?_
    refine Go.getR fo_M_13 k0 (by decide +kernel) ?_
    refine Go.run (pc' := 18) [.sipush (190), .iload_n 1, .iadd, .iload_n 2] (ls' := [some (.ref a0), some (.int x1), some (.int x2)]) (st' := [.int x2, .int ((190 : Int32) + x1), .ref (fld a0 2)]) (by decide +kernel) rfl rfl ?_
    obtain ⟨v4, e5, e⟩ := bd_inv e
    refine Go.callS (M2 := m_M_put) (as := [.ref (fld a0 2), .int ((190 : Int32) + x1), .int x2]) (rest := []) (v := some (.int v4.1)) (h1 := v4.2) (x_M_put hf hI (kf_8_j 2 k0 (by decide) (by decide)) (al_8_j 2 k0 (by decide) (by decide) rfl) e5) ws_M_178 (by decide +kernel) rfl rfl ⟨⟨Nat.le_of_ble_eq_true rfl, Nat.le_of_ble_eq_true rfl⟩, ⟨Nat.le_of_ble_eq_true rfl, Nat.le_of_ble_eq_true rfl⟩⟩ (Nat.le_of_ble_eq_true rfl) ?_
    show Go l D ad aC (rmk m_M_runSet) _ m_M_runSet 21 [some (.ref a0), some (.int x1), some (.int x2)] [.int v4.1] v4.2 0 0
    refine Go.if_lt (off := 7) (tgt := 28) (by decide +kernel) (by decide) (fun c6 => ?_) (fun c6 => ?_)
    · replace e := ite_t c6 e
      refine Go.run (pc' := 29) [.iconst 0] (ls' := [some (.ref a0), some (.int x1), some (.int x2)]) (st' := [.int (0 : Int32)]) (by decide +kernel) rfl rfl ?_
      obtain rfl := Option.some.inj e
      exact Go.zret rfl nar_z0 (by decide) (by decide) (by decide +kernel)
    · replace e := ite_f c6 e
      refine Go.run (pc' := 25) [.iconst 1] (ls' := [some (.ref a0), some (.int x1), some (.int x2)]) (st' := [.int (1 : Int32)]) (by decide +kernel) rfl rfl ?_
      refine Go.goto (off := 4) (tgt := 29) (by decide +kernel) (by decide) ?_
      obtain rfl := Option.some.inj e
      exact Go.zret rfl nar_z1 (by decide) (by decide) (by decide +kernel)
def f_M_runOutlet (h : HP) (a0 : Nat) (x1 : Int32) (x2 : Int32) (x3 : Int32) : Option (Int32 × HP) :=
  (f_M_isMetre h (fld a0 2) x1 x2).bind fun v1 =>
  if v1 = 0 then
    some ((0 : Int32), h)
  else
    (f_M_in h x3.toInt64 (0 : Int64) (4 : Int64)).bind fun v4 =>
    if v4 = 0 then
      some ((0 : Int32), h)
    else
      (f_M_put h (fld a0 2) ((((31 : Int32) * x1) + (1 : Int32)) + x2) x3).bind fun v7 =>
      if v7.1 < 0 then
        some ((0 : Int32), v7.2)
      else
        some ((1 : Int32), v7.2)
set_option maxHeartbeats 1000000 in
theorem x_M_runOutlet {l : Launch} {D : va_G} {ad : Nat → Nat} {aC : Nat → ClassId} (hf : l.flags = flags0) (hI : Inj ad) {h : HP} {a0 : Nat} {x1 : Int32} {x2 : Int32} {x3 : Int32} {r : Int32 × HP} (k0 : knd a0 = 8) (e : f_M_runOutlet h a0 x1 x2 x3 = some r) : CT l D ad aC m_M_runOutlet [.ref a0, .int x1, .int x2, .int x3] h (.inl (some (.int r.1))) r.2 := by
  refine CT.ofGo (by decide +kernel) rfl (Nat.le_of_ble_eq_true rfl) ?_
  unfold f_M_runOutlet at e
  show Go l D ad aC (rmk m_M_runOutlet) _ m_M_runOutlet 0 [some (.ref a0), some (.int x1), some (.int x2), some (.int x3)] [] h 0 0
  refine Go.run (pc' := 1) [.aload_n 0] (ls' := [some (.ref a0), some (.int x1), some (.int x2), some (.int x3)]) (st' := [.ref a0]) (by decide +kernel) rfl rfl ?_
  refine Go.getR fo_M_13 k0 (by decide +kernel) ?_
  refine Go.run (pc' := 6) [.iload_n 1, .iload_n 2] (ls' := [some (.ref a0), some (.int x1), some (.int x2), some (.int x3)]) (st' := [.int x2, .int x1, .ref (fld a0 2)]) (by decide +kernel) rfl rfl ?_
  obtain ⟨v1, e2, e⟩ := bd_inv e
  refine Go.callS (M2 := m_M_isMetre) (as := [.ref (fld a0 2), .int x1, .int x2]) (rest := []) (v := some (.int v1)) (h1 := h) (x_M_isMetre hf hI (kf_8_j 2 k0 (by decide) (by decide)) (al_8_j 2 k0 (by decide) (by decide) rfl) e2) ws_M_171 (by decide +kernel) rfl rfl ⟨⟨Nat.le_of_ble_eq_true rfl, Nat.le_of_ble_eq_true rfl⟩, ⟨Nat.le_of_ble_eq_true rfl, Nat.le_of_ble_eq_true rfl⟩⟩ (Nat.le_of_ble_eq_true rfl) ?_
  show Go l D ad aC (rmk m_M_runOutlet) _ m_M_runOutlet 9 [some (.ref a0), some (.int x1), some (.int x2), some (.int x3)] [.int v1] h 0 0
  refine Go.if_eq (off := 38) (tgt := 47) (by decide +kernel) (by decide) (fun c3 => ?_) (fun c3 => ?_)
  · replace e := ite_t c3 e
    refine Go.run (pc' := 48) [.iconst 0] (ls' := [some (.ref a0), some (.int x1), some (.int x2), some (.int x3)]) (st' := [.int (0 : Int32)]) (by decide +kernel) rfl rfl ?_
    obtain rfl := Option.some.inj e
    exact Go.zret rfl nar_z0 (by decide) (by decide) (by decide +kernel)
  · replace e := ite_f c3 e
    refine Go.run (pc' := 15) [.iload_n 3, .i2l, .lconst 0] (ls' := [some (.ref a0), some (.int x1), some (.int x2), some (.int x3)]) (st' := [.long (0 : Int64), .long x3.toInt64]) (by decide +kernel) rfl rfl ?_
    refine Go.ldc2 lo_M_59 (by decide +kernel) ?_
    obtain ⟨v4, e5, e⟩ := bd_inv e
    refine Go.callS (M2 := m_M_in) (as := [.long x3.toInt64, .long (0 : Int64), .long (4 : Int64)]) (rest := []) (v := some (.int v4)) (h1 := h) (x_M_in hf hI  e5) ws_M_51 (by decide +kernel) rfl rfl ⟨⟨Nat.le_of_ble_eq_true rfl, Nat.le_of_ble_eq_true rfl⟩, ⟨Nat.le_of_ble_eq_true rfl, Nat.le_of_ble_eq_true rfl⟩⟩ (Nat.le_of_ble_eq_true rfl) ?_
    show Go l D ad aC (rmk m_M_runOutlet) _ m_M_runOutlet 21 [some (.ref a0), some (.int x1), some (.int x2), some (.int x3)] [.int v4] h 0 0
    refine Go.if_eq (off := 26) (tgt := 47) (by decide +kernel) (by decide) (fun c6 => ?_) (fun c6 => ?_)
    · replace e := ite_t c6 e
      refine Go.run (pc' := 48) [.iconst 0] (ls' := [some (.ref a0), some (.int x1), some (.int x2), some (.int x3)]) (st' := [.int (0 : Int32)]) (by decide +kernel) rfl rfl ?_
      obtain rfl := Option.some.inj e
      exact Go.zret rfl nar_z0 (by decide) (by decide) (by decide +kernel)
    · replace e := ite_f c6 e
      refine Go.run (pc' := 25) [.aload_n 0] (ls' := [some (.ref a0), some (.int x1), some (.int x2), some (.int x3)]) (st' := [.ref a0]) (by decide +kernel) rfl rfl ?_
      refine Go.getR fo_M_13 k0 (by decide +kernel) ?_
      refine Go.run (pc' := 37) [.bipush (31), .iload_n 1, .imul, .iconst 1, .iadd, .iload_n 2, .iadd, .iload_n 3] (ls' := [some (.ref a0), some (.int x1), some (.int x2), some (.int x3)]) (st' := [.int x3, .int ((((31 : Int32) * x1) + (1 : Int32)) + x2), .ref (fld a0 2)]) (by decide +kernel) rfl rfl ?_
      obtain ⟨v7, e8, e⟩ := bd_inv e
      refine Go.callS (M2 := m_M_put) (as := [.ref (fld a0 2), .int ((((31 : Int32) * x1) + (1 : Int32)) + x2), .int x3]) (rest := []) (v := some (.int v7.1)) (h1 := v7.2) (x_M_put hf hI (kf_8_j 2 k0 (by decide) (by decide)) (al_8_j 2 k0 (by decide) (by decide) rfl) e8) ws_M_178 (by decide +kernel) rfl rfl ⟨⟨Nat.le_of_ble_eq_true rfl, Nat.le_of_ble_eq_true rfl⟩, ⟨Nat.le_of_ble_eq_true rfl, Nat.le_of_ble_eq_true rfl⟩⟩ (Nat.le_of_ble_eq_true rfl) ?_
      show Go l D ad aC (rmk m_M_runOutlet) _ m_M_runOutlet 40 [some (.ref a0), some (.int x1), some (.int x2), some (.int x3)] [.int v7.1] v7.2 0 0
      refine Go.if_lt (off := 7) (tgt := 47) (by decide +kernel) (by decide) (fun c9 => ?_) (fun c9 => ?_)
      · replace e := ite_t c9 e
        refine Go.run (pc' := 48) [.iconst 0] (ls' := [some (.ref a0), some (.int x1), some (.int x2), some (.int x3)]) (st' := [.int (0 : Int32)]) (by decide +kernel) rfl rfl ?_
        obtain rfl := Option.some.inj e
        exact Go.zret rfl nar_z0 (by decide) (by decide) (by decide +kernel)
      · replace e := ite_f c9 e
        refine Go.run (pc' := 44) [.iconst 1] (ls' := [some (.ref a0), some (.int x1), some (.int x2), some (.int x3)]) (st' := [.int (1 : Int32)]) (by decide +kernel) rfl rfl ?_
        refine Go.goto (off := 4) (tgt := 48) (by decide +kernel) (by decide) ?_
        obtain rfl := Option.some.inj e
        exact Go.zret rfl nar_z1 (by decide) (by decide) (by decide +kernel)
def f_M_isCheap (h : HP) (a0 : Nat) (x1 : Int32) (x2 : Int32) : Option (Int32 × HP) :=
  (f_M_share h a0 (fld a0 2)).bind fun v1 =>
  (f_M_isDealer v1 (fld a0 2) x1).bind fun v3 =>
  if v3 = 0 then
    some ((0 : Int32), v1)
  else
    (f_M_rent v1 a0 (fld a0 2) x1).bind fun v6 =>
    if x2 < v6 then
      some ((0 : Int32), v1)
    else
      some ((1 : Int32), v1)
set_option maxHeartbeats 1000000 in
theorem x_M_isCheap {l : Launch} {D : va_G} {ad : Nat → Nat} {aC : Nat → ClassId} (hf : l.flags = flags0) (hI : Inj ad) {h : HP} {a0 : Nat} {x1 : Int32} {x2 : Int32} {r : Int32 × HP} (k0 : knd a0 = 8) (e : f_M_isCheap h a0 x1 x2 = some r) : CT l D ad aC m_M_isCheap [.ref a0, .int x1, .int x2] h (.inl (some (.int r.1))) r.2 := by
  refine CT.ofGo (by decide +kernel) rfl (Nat.le_of_ble_eq_true rfl) ?_
  unfold f_M_isCheap at e
  show Go l D ad aC (rmk m_M_isCheap) _ m_M_isCheap 0 [some (.ref a0), some (.int x1), some (.int x2)] [] h 0 0
  refine Go.run (pc' := 2) [.aload_n 0, .aload_n 0] (ls' := [some (.ref a0), some (.int x1), some (.int x2)]) (st' := [.ref a0, .ref a0]) (by decide +kernel) rfl rfl ?_
  refine Go.getR fo_M_13 k0 (by decide +kernel) ?_
  obtain ⟨v1, e2, e⟩ := bd_inv e
  refine Go.callV (M2 := m_M_share) (a := a0) (as := [.ref (fld a0 2)]) (rest := []) (v := none) (h1 := v1) (x_M_share hf hI k0 (kf_8_j 2 k0 (by decide) (by decide)) (al_8_j 2 k0 (by decide) (by decide) rfl) e2) wv_M_109 k0 kc_8 (by decide +kernel) rfl rfl ⟨⟨Nat.le_of_ble_eq_true rfl, Nat.le_of_ble_eq_true rfl⟩, ⟨Nat.le_of_ble_eq_true rfl, Nat.le_of_ble_eq_true rfl⟩⟩ (Nat.le_of_ble_eq_true rfl) ?_
  show Go l D ad aC (rmk m_M_isCheap) _ m_M_isCheap 8 [some (.ref a0), some (.int x1), some (.int x2)] [] v1 0 0
  refine Go.run (pc' := 9) [.aload_n 0] (ls' := [some (.ref a0), some (.int x1), some (.int x2)]) (st' := [.ref a0]) (by decide +kernel) rfl rfl ?_
  refine Go.getR fo_M_13 k0 (by decide +kernel) ?_
  refine Go.run (pc' := 13) [.iload_n 1] (ls' := [some (.ref a0), some (.int x1), some (.int x2)]) (st' := [.int x1, .ref (fld a0 2)]) (by decide +kernel) rfl rfl ?_
  obtain ⟨v3, e4, e⟩ := bd_inv e
  refine Go.callS (M2 := m_M_isDealer) (as := [.ref (fld a0 2), .int x1]) (rest := []) (v := some (.int v3)) (h1 := v1) (x_M_isDealer hf hI (kf_8_j 2 k0 (by decide) (by decide)) (al_8_j 2 k0 (by decide) (by decide) rfl) e4) ws_M_184 (by decide +kernel) rfl rfl ⟨⟨Nat.le_of_ble_eq_true rfl, Nat.le_of_ble_eq_true rfl⟩, ⟨Nat.le_of_ble_eq_true rfl, Nat.le_of_ble_eq_true rfl⟩⟩ (Nat.le_of_ble_eq_true rfl) ?_
  show Go l D ad aC (rmk m_M_isCheap) _ m_M_isCheap 16 [some (.ref a0), some (.int x1), some (.int x2)] [.int v3] v1 0 0
  refine Go.if_eq (off := 20) (tgt := 36) (by decide +kernel) (by decide) (fun c5 => ?_) (fun c5 => ?_)
  · replace e := ite_t c5 e
    refine Go.run (pc' := 37) [.iconst 0] (ls' := [some (.ref a0), some (.int x1), some (.int x2)]) (st' := [.int (0 : Int32)]) (by decide +kernel) rfl rfl ?_
    obtain rfl := Option.some.inj e
    exact Go.zret rfl nar_z0 (by decide) (by decide) (by decide +kernel)
  · replace e := ite_f c5 e
    refine Go.run (pc' := 21) [.aload_n 0, .aload_n 0] (ls' := [some (.ref a0), some (.int x1), some (.int x2)]) (st' := [.ref a0, .ref a0]) (by decide +kernel) rfl rfl ?_
    refine Go.getR fo_M_13 k0 (by decide +kernel) ?_
    refine Go.run (pc' := 25) [.iload_n 1] (ls' := [some (.ref a0), some (.int x1), some (.int x2)]) (st' := [.int x1, .ref (fld a0 2), .ref a0]) (by decide +kernel) rfl rfl ?_
    obtain ⟨v6, e7, e⟩ := bd_inv e
    refine Go.callV (M2 := m_M_rent) (a := a0) (as := [.ref (fld a0 2), .int x1]) (rest := []) (v := some (.int v6)) (h1 := v1) (x_M_rent hf hI k0 (kf_8_j 2 k0 (by decide) (by decide)) (al_8_j 2 k0 (by decide) (by decide) rfl) e7) wv_M_112 k0 kc_8 (by decide +kernel) rfl rfl ⟨⟨Nat.le_of_ble_eq_true rfl, Nat.le_of_ble_eq_true rfl⟩, ⟨Nat.le_of_ble_eq_true rfl, Nat.le_of_ble_eq_true rfl⟩⟩ (Nat.le_of_ble_eq_true rfl) ?_
    show Go l D ad aC (rmk m_M_isCheap) _ m_M_isCheap 28 [some (.ref a0), some (.int x1), some (.int x2)] [.int v6] v1 0 0
    refine Go.run (pc' := 29) [.iload_n 2] (ls' := [some (.ref a0), some (.int x1), some (.int x2)]) (st' := [.int x2, .int v6]) (by decide +kernel) rfl rfl ?_
    refine Go.ic_gt (off := 7) (tgt := 36) (by decide +kernel) (by decide) (fun c8 => ?_) (fun c8 => ?_)
    · replace e := ite_t c8 e
      refine Go.run (pc' := 37) [.iconst 0] (ls' := [some (.ref a0), some (.int x1), some (.int x2)]) (st' := [.int (0 : Int32)]) (by decide +kernel) rfl rfl ?_
      obtain rfl := Option.some.inj e
      exact Go.zret rfl nar_z0 (by decide) (by decide) (by decide +kernel)
    · replace e := ite_f c8 e
      refine Go.run (pc' := 33) [.iconst 1] (ls' := [some (.ref a0), some (.int x1), some (.int x2)]) (st' := [.int (1 : Int32)]) (by decide +kernel) rfl rfl ?_
      refine Go.goto (off := 4) (tgt := 37) (by decide +kernel) (by decide) ?_
      obtain rfl := Option.some.inj e
      exact Go.zret rfl nar_z1 (by decide) (by decide) (by decide +kernel)
def f_M_isFed (h : HP) (a0 : Nat) (x1 : Int32) (x2 : Int32) : Option (Int32 × HP) :=
  (f_M_share h a0 (fld a0 2)).bind fun v1 =>
  (f_M_isDealer v1 (fld a0 2) x1).bind fun v3 =>
  if v3 = 0 then
    some ((0 : Int32), v1)
  else
    if ib x1 10 = true then
    if (v1 (fld a0 9) x1.toNatClampNeg) < x2 then
      some ((0 : Int32), v1)
    else
      some ((1 : Int32), v1)
    else none
set_option maxHeartbeats 1000000 in
theorem x_M_isFed {l : Launch} {D : va_G} {ad : Nat → Nat} {aC : Nat → ClassId} (hf : l.flags = flags0) (hI : Inj ad) {h : HP} {a0 : Nat} {x1 : Int32} {x2 : Int32} {r : Int32 × HP} (k0 : knd a0 = 8) (e : f_M_isFed h a0 x1 x2 = some r) : CT l D ad aC m_M_isFed [.ref a0, .int x1, .int x2] h (.inl (some (.int r.1))) r.2 := by
  refine CT.ofGo (by decide +kernel) rfl (Nat.le_of_ble_eq_true rfl) ?_
  unfold f_M_isFed at e
  show Go l D ad aC (rmk m_M_isFed) _ m_M_isFed 0 [some (.ref a0), some (.int x1), some (.int x2)] [] h 0 0
  refine Go.run (pc' := 2) [.aload_n 0, .aload_n 0] (ls' := [some (.ref a0), some (.int x1), some (.int x2)]) (st' := [.ref a0, .ref a0]) (by decide +kernel) rfl rfl ?_
  refine Go.getR fo_M_13 k0 (by decide +kernel) ?_
  obtain ⟨v1, e2, e⟩ := bd_inv e
  refine Go.callV (M2 := m_M_share) (a := a0) (as := [.ref (fld a0 2)]) (rest := []) (v := none) (h1 := v1) (x_M_share hf hI k0 (kf_8_j 2 k0 (by decide) (by decide)) (al_8_j 2 k0 (by decide) (by decide) rfl) e2) wv_M_109 k0 kc_8 (by decide +kernel) rfl rfl ⟨⟨Nat.le_of_ble_eq_true rfl, Nat.le_of_ble_eq_true rfl⟩, ⟨Nat.le_of_ble_eq_true rfl, Nat.le_of_ble_eq_true rfl⟩⟩ (Nat.le_of_ble_eq_true rfl) ?_
  show Go l D ad aC (rmk m_M_isFed) _ m_M_isFed 8 [some (.ref a0), some (.int x1), some (.int x2)] [] v1 0 0
  refine Go.run (pc' := 9) [.aload_n 0] (ls' := [some (.ref a0), some (.int x1), some (.int x2)]) (st' := [.ref a0]) (by decide +kernel) rfl rfl ?_
  refine Go.getR fo_M_13 k0 (by decide +kernel) ?_
  refine Go.run (pc' := 13) [.iload_n 1] (ls' := [some (.ref a0), some (.int x1), some (.int x2)]) (st' := [.int x1, .ref (fld a0 2)]) (by decide +kernel) rfl rfl ?_
  obtain ⟨v3, e4, e⟩ := bd_inv e
  refine Go.callS (M2 := m_M_isDealer) (as := [.ref (fld a0 2), .int x1]) (rest := []) (v := some (.int v3)) (h1 := v1) (x_M_isDealer hf hI (kf_8_j 2 k0 (by decide) (by decide)) (al_8_j 2 k0 (by decide) (by decide) rfl) e4) ws_M_184 (by decide +kernel) rfl rfl ⟨⟨Nat.le_of_ble_eq_true rfl, Nat.le_of_ble_eq_true rfl⟩, ⟨Nat.le_of_ble_eq_true rfl, Nat.le_of_ble_eq_true rfl⟩⟩ (Nat.le_of_ble_eq_true rfl) ?_
  show Go l D ad aC (rmk m_M_isFed) _ m_M_isFed 16 [some (.ref a0), some (.int x1), some (.int x2)] [.int v3] v1 0 0
  refine Go.if_eq (off := 17) (tgt := 33) (by decide +kernel) (by decide) (fun c5 => ?_) (fun c5 => ?_)
  · replace e := ite_t c5 e
    refine Go.run (pc' := 34) [.iconst 0] (ls' := [some (.ref a0), some (.int x1), some (.int x2)]) (st' := [.int (0 : Int32)]) (by decide +kernel) rfl rfl ?_
    obtain rfl := Option.some.inj e
    exact Go.zret rfl nar_z0 (by decide) (by decide) (by decide +kernel)
  · replace e := ite_f c5 e
    refine Go.run (pc' := 20) [.aload_n 0] (ls' := [some (.ref a0), some (.int x1), some (.int x2)]) (st' := [.ref a0]) (by decide +kernel) rfl rfl ?_
    refine Go.getR fo_M_32 k0 (by decide +kernel) ?_
    refine Go.run (pc' := 24) [.iload_n 1] (ls' := [some (.ref a0), some (.int x1), some (.int x2)]) (st' := [.int x1, .ref (fld a0 9)]) (by decide +kernel) rfl rfl ?_
    obtain ⟨g6, e⟩ := gd_inv e
    refine Go.iald (kf_8_j 9 k0 (by decide) (by decide)) (al_8_j 9 k0 (by decide) (by decide) rfl) g6 (by decide +kernel) ?_
    refine Go.run (pc' := 26) [.iload_n 2] (ls' := [some (.ref a0), some (.int x1), some (.int x2)]) (st' := [.int x2, .int (v1 (fld a0 9) x1.toNatClampNeg)]) (by decide +kernel) rfl rfl ?_
    refine Go.ic_lt (off := 7) (tgt := 33) (by decide +kernel) (by decide) (fun c7 => ?_) (fun c7 => ?_)
    · replace e := ite_t c7 e
      refine Go.run (pc' := 34) [.iconst 0] (ls' := [some (.ref a0), some (.int x1), some (.int x2)]) (st' := [.int (0 : Int32)]) (by decide +kernel) rfl rfl ?_
      obtain rfl := Option.some.inj e
      exact Go.zret rfl nar_z0 (by decide) (by decide) (by decide +kernel)
    · replace e := ite_f c7 e
      refine Go.run (pc' := 30) [.iconst 1] (ls' := [some (.ref a0), some (.int x1), some (.int x2)]) (st' := [.int (1 : Int32)]) (by decide +kernel) rfl rfl ?_
      refine Go.goto (off := 4) (tgt := 34) (by decide +kernel) (by decide) ?_
      obtain rfl := Option.some.inj e
      exact Go.zret rfl nar_z1 (by decide) (by decide) (by decide +kernel)
def f_M_command (h : HP) (a0 : Nat) (x1 : Int32) : Option (Int32 × HP) :=
  if (x1 / (10000 : Int32)) = 1 then
    (f_M_runPlace h a0 ((x1 / (1000 : Int32)) - (x1 / (1000 : Int32)) / (10 : Int32) * (10 : Int32)) ((x1 / (100 : Int32)) - (x1 / (100 : Int32)) / (10 : Int32) * (10 : Int32)) (x1 - x1 / (100 : Int32) * (100 : Int32))).bind fun v2 =>
    if isB v2.1 = true then
    some (v2.1, v2.2)
    else none
  else
    if (x1 / (10000 : Int32)) = 2 then
      if (x1 - x1 / (100 : Int32) * (100 : Int32)) = 0 then
        (f_M_runSwap h a0 ((x1 / (1000 : Int32)) - (x1 / (1000 : Int32)) / (10 : Int32) * (10 : Int32)) ((x1 / (100 : Int32)) - (x1 / (100 : Int32)) / (10 : Int32) * (10 : Int32))).bind fun v7 =>
        if v7.1 = 0 then
          some ((0 : Int32), v7.2)
        else
          some ((1 : Int32), v7.2)
      else
        some ((0 : Int32), h)
    else
      if (x1 / (10000 : Int32)) = 3 then
        if (x1 - x1 / (1000 : Int32) * (1000 : Int32)) = 0 then
          (f_M_runLeave h a0 ((x1 / (1000 : Int32)) - (x1 / (1000 : Int32)) / (10 : Int32) * (10 : Int32))).bind fun v12 =>
          if v12.1 = 0 then
            some ((0 : Int32), v12.2)
          else
            some ((1 : Int32), v12.2)
        else
          some ((0 : Int32), h)
      else
        if (x1 / (10000 : Int32)) = 4 then
          if (100 : Int32) ≤ (x1 - x1 / (10000 : Int32) * (10000 : Int32)) then
            some ((0 : Int32), h)
          else
            (f_M_runDays h a0 (x1 - x1 / (100 : Int32) * (100 : Int32))).bind fun v17 =>
            if v17.1 = 0 then
              some ((0 : Int32), v17.2)
            else
              some ((1 : Int32), v17.2)
        else
          if (x1 / (10000 : Int32)) = 5 then
            if ((x1 / (100 : Int32)) - (x1 / (100 : Int32)) / (10 : Int32) * (10 : Int32)) = 0 then
              (f_M_runSet h a0 ((x1 / (1000 : Int32)) - (x1 / (1000 : Int32)) / (10 : Int32) * (10 : Int32)) (x1 - x1 / (100 : Int32) * (100 : Int32))).bind fun v22 =>
              if v22.1 = 0 then
                some ((0 : Int32), v22.2)
              else
                some ((1 : Int32), v22.2)
            else
              some ((0 : Int32), h)
          else
            if (x1 / (10000 : Int32)) = 6 then
              (f_M_runOutlet h a0 ((x1 / (1000 : Int32)) - (x1 / (1000 : Int32)) / (10 : Int32) * (10 : Int32)) ((x1 / (10 : Int32)) - (x1 / (10 : Int32)) / (100 : Int32) * (100 : Int32)) (x1 - x1 / (10 : Int32) * (10 : Int32))).bind fun v26 =>
              if isB v26.1 = true then
              some (v26.1, v26.2)
              else none
            else
              if (x1 / (10000 : Int32)) = 7 then
                if ((x1 / (100 : Int32)) - (x1 / (100 : Int32)) / (10 : Int32) * (10 : Int32)) = 0 then
                  (f_M_isCheap h a0 ((x1 / (1000 : Int32)) - (x1 / (1000 : Int32)) / (10 : Int32) * (10 : Int32)) (x1 - x1 / (100 : Int32) * (100 : Int32))).bind fun v31 =>
                  if v31.1 = 0 then
                    some ((0 : Int32), v31.2)
                  else
                    some ((1 : Int32), v31.2)
                else
                  some ((0 : Int32), h)
              else
                if (x1 / (10000 : Int32)) = 8 then
                  if (10 : Int32) ≤ (x1 - x1 / (1000 : Int32) * (1000 : Int32)) then
                    some ((0 : Int32), h)
                  else
                    (f_M_isFed h a0 ((x1 / (1000 : Int32)) - (x1 / (1000 : Int32)) / (10 : Int32) * (10 : Int32)) (x1 - x1 / (10 : Int32) * (10 : Int32))).bind fun v36 =>
                    if v36.1 = 0 then
                      some ((0 : Int32), v36.2)
                    else
                      some ((1 : Int32), v36.2)
                else
                  if (x1 / (10000 : Int32)) = 9 then
                    if ((x1 / (100 : Int32)) - (x1 / (100 : Int32)) / (10 : Int32) * (10 : Int32)) = 0 then
                      (f_M_isWall h (fld a0 2) ((x1 / (1000 : Int32)) - (x1 / (1000 : Int32)) / (10 : Int32) * (10 : Int32))).bind fun v41 =>
                      if v41 = 0 then
                        some ((0 : Int32), h)
                      else
                        (f_M_freeAt h (fld a0 2) ((x1 / (1000 : Int32)) - (x1 / (1000 : Int32)) / (10 : Int32) * (10 : Int32))).bind fun v44 =>
                        if v44 < (x1 - x1 / (100 : Int32) * (100 : Int32)) then
                          some ((0 : Int32), h)
                        else
                          some ((1 : Int32), h)
                    else
                      some ((0 : Int32), h)
                  else
                    some ((0 : Int32), h)
set_option maxHeartbeats 1000000 in
theorem x_M_command {l : Launch} {D : va_G} {ad : Nat → Nat} {aC : Nat → ClassId} (hf : l.flags = flags0) (hI : Inj ad) {h : HP} {a0 : Nat} {x1 : Int32} {r : Int32 × HP} (k0 : knd a0 = 8) (e : f_M_command h a0 x1 = some r) : CT l D ad aC m_M_command [.ref a0, .int x1] h (.inl (some (.int r.1))) r.2 := by
  refine CT.ofGo (by decide +kernel) rfl (Nat.le_of_ble_eq_true rfl) ?_
  unfold f_M_command at e
  show Go l D ad aC (rmk m_M_command) _ m_M_command 0 [some (.ref a0), some (.int x1), none, none, none, none, none] [] h 0 0
  refine Go.run (pc' := 43) [.iload_n 1, .sipush (1000), .idiv, .bipush (10), .irem, .istore_n 2, .iload_n 1, .bipush (100), .idiv, .bipush (10), .irem, .istore_n 3, .iload_n 1, .bipush (10), .idiv, .bipush (100), .irem, .istore 4, .iload_n 1, .bipush (100), .irem, .istore 5, .iload_n 1, .bipush (10), .irem, .istore 6, .iload_n 1, .sipush (10000), .idiv] (ls' := [some (.ref a0), some (.int x1), some (.int ((x1 / (1000 : Int32)) - (x1 / (1000 : Int32)) / (10 : Int32) * (10 : Int32))), some (.int ((x1 / (100 : Int32)) - (x1 / (100 : Int32)) / (10 : Int32) * (10 : Int32))), some (.int ((x1 / (10 : Int32)) - (x1 / (10 : Int32)) / (100 : Int32) * (100 : Int32))), some (.int (x1 - x1 / (100 : Int32) * (100 : Int32))), some (.int (x1 - x1 / (10 : Int32) * (10 : Int32)))]) (st' := [.int (x1 / (10000 : Int32))]) (by decide +kernel) rfl rfl ?_
  rcases Decidable.em ((x1 / (10000 : Int32)) = 1) with c1 | c1
  · replace e := ite_t c1 e
    refine Go.tsIn (dflt := 235) (lo := 1) (hi := 9) (offs := #[49, 58, 78, 100, 125, 145, 155, 175, 201]) (len := 49) (off := 49) (tgt := 92) 1 (by decide +kernel) (by rw [c1]; decide) (by decide) (by decide) (by decide) (by decide) ?_
    refine Go.run (pc' := 97) [.aload_n 0, .iload_n 2, .iload_n 3, .iload 5] (ls' := [some (.ref a0), some (.int x1), some (.int ((x1 / (1000 : Int32)) - (x1 / (1000 : Int32)) / (10 : Int32) * (10 : Int32))), some (.int ((x1 / (100 : Int32)) - (x1 / (100 : Int32)) / (10 : Int32) * (10 : Int32))), some (.int ((x1 / (10 : Int32)) - (x1 / (10 : Int32)) / (100 : Int32) * (100 : Int32))), some (.int (x1 - x1 / (100 : Int32) * (100 : Int32))), some (.int (x1 - x1 / (10 : Int32) * (10 : Int32)))]) (st' := [.int (x1 - x1 / (100 : Int32) * (100 : Int32)), .int ((x1 / (100 : Int32)) - (x1 / (100 : Int32)) / (10 : Int32) * (10 : Int32)), .int ((x1 / (1000 : Int32)) - (x1 / (1000 : Int32)) / (10 : Int32) * (10 : Int32)), .ref a0]) (by decide +kernel) rfl rfl ?_
    obtain ⟨v2, e3, e⟩ := bd_inv e
    refine Go.callV (M2 := m_M_runPlace) (a := a0) (as := [.int ((x1 / (1000 : Int32)) - (x1 / (1000 : Int32)) / (10 : Int32) * (10 : Int32)), .int ((x1 / (100 : Int32)) - (x1 / (100 : Int32)) / (10 : Int32) * (10 : Int32)), .int (x1 - x1 / (100 : Int32) * (100 : Int32))]) (rest := []) (v := some (.int v2.1)) (h1 := v2.2) (x_M_runPlace hf hI k0 e3) wv_M_284 k0 kc_8 (by decide +kernel) rfl rfl ⟨⟨Nat.le_of_ble_eq_true rfl, Nat.le_of_ble_eq_true rfl⟩, ⟨Nat.le_of_ble_eq_true rfl, Nat.le_of_ble_eq_true rfl⟩⟩ (Nat.le_of_ble_eq_true rfl) ?_
    show Go l D ad aC (rmk m_M_command) _ m_M_command 100 [some (.ref a0), some (.int x1), some (.int ((x1 / (1000 : Int32)) - (x1 / (1000 : Int32)) / (10 : Int32) * (10 : Int32))), some (.int ((x1 / (100 : Int32)) - (x1 / (100 : Int32)) / (10 : Int32) * (10 : Int32))), some (.int ((x1 / (10 : Int32)) - (x1 / (10 : Int32)) / (100 : Int32) * (100 : Int32))), some (.int (x1 - x1 / (100 : Int32) * (100 : Int32))), some (.int (x1 - x1 / (10 : Int32) * (10 : Int32)))] [.int v2.1] v2.2 0 0
    obtain ⟨g4, e⟩ := gd_inv e
    obtain rfl := Option.some.inj e
    exact Go.zret rfl (isB_nar g4) (by decide) (by decide) (by decide +kernel)
  replace e := ite_f c1 e
  rcases Decidable.em ((x1 / (10000 : Int32)) = 2) with c5 | c5
  · replace e := ite_t c5 e
    refine Go.tsIn (dflt := 235) (lo := 1) (hi := 9) (offs := #[49, 58, 78, 100, 125, 145, 155, 175, 201]) (len := 49) (off := 58) (tgt := 101) 2 (by decide +kernel) (by rw [c5]; decide) (by decide) (by decide) (by decide) (by decide) ?_
    refine Go.run (pc' := 103) [.iload 5] (ls' := [some (.ref a0), some (.int x1), some (.int ((x1 / (1000 : Int32)) - (x1 / (1000 : Int32)) / (10 : Int32) * (10 : Int32))), some (.int ((x1 / (100 : Int32)) - (x1 / (100 : Int32)) / (10 : Int32) * (10 : Int32))), some (.int ((x1 / (10 : Int32)) - (x1 / (10 : Int32)) / (100 : Int32) * (100 : Int32))), some (.int (x1 - x1 / (100 : Int32) * (100 : Int32))), some (.int (x1 - x1 / (10 : Int32) * (10 : Int32)))]) (st' := [.int (x1 - x1 / (100 : Int32) * (100 : Int32))]) (by decide +kernel) rfl rfl ?_
    refine Go.if_ne (off := 16) (tgt := 119) (by decide +kernel) (by decide) (fun c6 => ?_) (fun c6 => ?_)
    · replace e := ite_f c6 e
      refine Go.run (pc' := 120) [.iconst 0] (ls' := [some (.ref a0), some (.int x1), some (.int ((x1 / (1000 : Int32)) - (x1 / (1000 : Int32)) / (10 : Int32) * (10 : Int32))), some (.int ((x1 / (100 : Int32)) - (x1 / (100 : Int32)) / (10 : Int32) * (10 : Int32))), some (.int ((x1 / (10 : Int32)) - (x1 / (10 : Int32)) / (100 : Int32) * (100 : Int32))), some (.int (x1 - x1 / (100 : Int32) * (100 : Int32))), some (.int (x1 - x1 / (10 : Int32) * (10 : Int32)))]) (st' := [.int (0 : Int32)]) (by decide +kernel) rfl rfl ?_
      obtain rfl := Option.some.inj e
      exact Go.zret rfl nar_z0 (by decide) (by decide) (by decide +kernel)
    · replace e := ite_t c6 e
      refine Go.run (pc' := 109) [.aload_n 0, .iload_n 2, .iload_n 3] (ls' := [some (.ref a0), some (.int x1), some (.int ((x1 / (1000 : Int32)) - (x1 / (1000 : Int32)) / (10 : Int32) * (10 : Int32))), some (.int ((x1 / (100 : Int32)) - (x1 / (100 : Int32)) / (10 : Int32) * (10 : Int32))), some (.int ((x1 / (10 : Int32)) - (x1 / (10 : Int32)) / (100 : Int32) * (100 : Int32))), some (.int (x1 - x1 / (100 : Int32) * (100 : Int32))), some (.int (x1 - x1 / (10 : Int32) * (10 : Int32)))]) (st' := [.int ((x1 / (100 : Int32)) - (x1 / (100 : Int32)) / (10 : Int32) * (10 : Int32)), .int ((x1 / (1000 : Int32)) - (x1 / (1000 : Int32)) / (10 : Int32) * (10 : Int32)), .ref a0]) (by decide +kernel) rfl rfl ?_
      obtain ⟨v7, e8, e⟩ := bd_inv e
      refine Go.callV (M2 := m_M_runSwap) (a := a0) (as := [.int ((x1 / (1000 : Int32)) - (x1 / (1000 : Int32)) / (10 : Int32) * (10 : Int32)), .int ((x1 / (100 : Int32)) - (x1 / (100 : Int32)) / (10 : Int32) * (10 : Int32))]) (rest := []) (v := some (.int v7.1)) (h1 := v7.2) (x_M_runSwap hf hI k0 e8) wv_M_287 k0 kc_8 (by decide +kernel) rfl rfl ⟨⟨Nat.le_of_ble_eq_true rfl, Nat.le_of_ble_eq_true rfl⟩, ⟨Nat.le_of_ble_eq_true rfl, Nat.le_of_ble_eq_true rfl⟩⟩ (Nat.le_of_ble_eq_true rfl) ?_
      show Go l D ad aC (rmk m_M_command) _ m_M_command 112 [some (.ref a0), some (.int x1), some (.int ((x1 / (1000 : Int32)) - (x1 / (1000 : Int32)) / (10 : Int32) * (10 : Int32))), some (.int ((x1 / (100 : Int32)) - (x1 / (100 : Int32)) / (10 : Int32) * (10 : Int32))), some (.int ((x1 / (10 : Int32)) - (x1 / (10 : Int32)) / (100 : Int32) * (100 : Int32))), some (.int (x1 - x1 / (100 : Int32) * (100 : Int32))), some (.int (x1 - x1 / (10 : Int32) * (10 : Int32)))] [.int v7.1] v7.2 0 0
      refine Go.if_eq (off := 7) (tgt := 119) (by decide +kernel) (by decide) (fun c9 => ?_) (fun c9 => ?_)
      · replace e := ite_t c9 e
        refine Go.run (pc' := 120) [.iconst 0] (ls' := [some (.ref a0), some (.int x1), some (.int ((x1 / (1000 : Int32)) - (x1 / (1000 : Int32)) / (10 : Int32) * (10 : Int32))), some (.int ((x1 / (100 : Int32)) - (x1 / (100 : Int32)) / (10 : Int32) * (10 : Int32))), some (.int ((x1 / (10 : Int32)) - (x1 / (10 : Int32)) / (100 : Int32) * (100 : Int32))), some (.int (x1 - x1 / (100 : Int32) * (100 : Int32))), some (.int (x1 - x1 / (10 : Int32) * (10 : Int32)))]) (st' := [.int (0 : Int32)]) (by decide +kernel) rfl rfl ?_
        obtain rfl := Option.some.inj e
        exact Go.zret rfl nar_z0 (by decide) (by decide) (by decide +kernel)
      · replace e := ite_f c9 e
        refine Go.run (pc' := 116) [.iconst 1] (ls' := [some (.ref a0), some (.int x1), some (.int ((x1 / (1000 : Int32)) - (x1 / (1000 : Int32)) / (10 : Int32) * (10 : Int32))), some (.int ((x1 / (100 : Int32)) - (x1 / (100 : Int32)) / (10 : Int32) * (10 : Int32))), some (.int ((x1 / (10 : Int32)) - (x1 / (10 : Int32)) / (100 : Int32) * (100 : Int32))), some (.int (x1 - x1 / (100 : Int32) * (100 : Int32))), some (.int (x1 - x1 / (10 : Int32) * (10 : Int32)))]) (st' := [.int (1 : Int32)]) (by decide +kernel) rfl rfl ?_
        refine Go.goto (off := 4) (tgt := 120) (by decide +kernel) (by decide) ?_
        obtain rfl := Option.some.inj e
        exact Go.zret rfl nar_z1 (by decide) (by decide) (by decide +kernel)
  replace e := ite_f c5 e
  rcases Decidable.em ((x1 / (10000 : Int32)) = 3) with c10 | c10
  · replace e := ite_t c10 e
    refine Go.tsIn (dflt := 235) (lo := 1) (hi := 9) (offs := #[49, 58, 78, 100, 125, 145, 155, 175, 201]) (len := 49) (off := 78) (tgt := 121) 3 (by decide +kernel) (by rw [c10]; decide) (by decide) (by decide) (by decide) (by decide) ?_
    refine Go.run (pc' := 126) [.iload_n 1, .sipush (1000), .irem] (ls' := [some (.ref a0), some (.int x1), some (.int ((x1 / (1000 : Int32)) - (x1 / (1000 : Int32)) / (10 : Int32) * (10 : Int32))), some (.int ((x1 / (100 : Int32)) - (x1 / (100 : Int32)) / (10 : Int32) * (10 : Int32))), some (.int ((x1 / (10 : Int32)) - (x1 / (10 : Int32)) / (100 : Int32) * (100 : Int32))), some (.int (x1 - x1 / (100 : Int32) * (100 : Int32))), some (.int (x1 - x1 / (10 : Int32) * (10 : Int32)))]) (st' := [.int (x1 - x1 / (1000 : Int32) * (1000 : Int32))]) (by decide +kernel) rfl rfl ?_
    refine Go.if_ne (off := 15) (tgt := 141) (by decide +kernel) (by decide) (fun c11 => ?_) (fun c11 => ?_)
    · replace e := ite_f c11 e
      refine Go.run (pc' := 142) [.iconst 0] (ls' := [some (.ref a0), some (.int x1), some (.int ((x1 / (1000 : Int32)) - (x1 / (1000 : Int32)) / (10 : Int32) * (10 : Int32))), some (.int ((x1 / (100 : Int32)) - (x1 / (100 : Int32)) / (10 : Int32) * (10 : Int32))), some (.int ((x1 / (10 : Int32)) - (x1 / (10 : Int32)) / (100 : Int32) * (100 : Int32))), some (.int (x1 - x1 / (100 : Int32) * (100 : Int32))), some (.int (x1 - x1 / (10 : Int32) * (10 : Int32)))]) (st' := [.int (0 : Int32)]) (by decide +kernel) rfl rfl ?_
      obtain rfl := Option.some.inj e
      exact Go.zret rfl nar_z0 (by decide) (by decide) (by decide +kernel)
    · replace e := ite_t c11 e
      refine Go.run (pc' := 131) [.aload_n 0, .iload_n 2] (ls' := [some (.ref a0), some (.int x1), some (.int ((x1 / (1000 : Int32)) - (x1 / (1000 : Int32)) / (10 : Int32) * (10 : Int32))), some (.int ((x1 / (100 : Int32)) - (x1 / (100 : Int32)) / (10 : Int32) * (10 : Int32))), some (.int ((x1 / (10 : Int32)) - (x1 / (10 : Int32)) / (100 : Int32) * (100 : Int32))), some (.int (x1 - x1 / (100 : Int32) * (100 : Int32))), some (.int (x1 - x1 / (10 : Int32) * (10 : Int32)))]) (st' := [.int ((x1 / (1000 : Int32)) - (x1 / (1000 : Int32)) / (10 : Int32) * (10 : Int32)), .ref a0]) (by decide +kernel) rfl rfl ?_
      obtain ⟨v12, e13, e⟩ := bd_inv e
      refine Go.callV (M2 := m_M_runLeave) (a := a0) (as := [.int ((x1 / (1000 : Int32)) - (x1 / (1000 : Int32)) / (10 : Int32) * (10 : Int32))]) (rest := []) (v := some (.int v12.1)) (h1 := v12.2) (x_M_runLeave hf hI k0 e13) wv_M_290 k0 kc_8 (by decide +kernel) rfl rfl ⟨⟨Nat.le_of_ble_eq_true rfl, Nat.le_of_ble_eq_true rfl⟩, ⟨Nat.le_of_ble_eq_true rfl, Nat.le_of_ble_eq_true rfl⟩⟩ (Nat.le_of_ble_eq_true rfl) ?_
      show Go l D ad aC (rmk m_M_command) _ m_M_command 134 [some (.ref a0), some (.int x1), some (.int ((x1 / (1000 : Int32)) - (x1 / (1000 : Int32)) / (10 : Int32) * (10 : Int32))), some (.int ((x1 / (100 : Int32)) - (x1 / (100 : Int32)) / (10 : Int32) * (10 : Int32))), some (.int ((x1 / (10 : Int32)) - (x1 / (10 : Int32)) / (100 : Int32) * (100 : Int32))), some (.int (x1 - x1 / (100 : Int32) * (100 : Int32))), some (.int (x1 - x1 / (10 : Int32) * (10 : Int32)))] [.int v12.1] v12.2 0 0
      refine Go.if_eq (off := 7) (tgt := 141) (by decide +kernel) (by decide) (fun c14 => ?_) (fun c14 => ?_)
      · replace e := ite_t c14 e
        refine Go.run (pc' := 142) [.iconst 0] (ls' := [some (.ref a0), some (.int x1), some (.int ((x1 / (1000 : Int32)) - (x1 / (1000 : Int32)) / (10 : Int32) * (10 : Int32))), some (.int ((x1 / (100 : Int32)) - (x1 / (100 : Int32)) / (10 : Int32) * (10 : Int32))), some (.int ((x1 / (10 : Int32)) - (x1 / (10 : Int32)) / (100 : Int32) * (100 : Int32))), some (.int (x1 - x1 / (100 : Int32) * (100 : Int32))), some (.int (x1 - x1 / (10 : Int32) * (10 : Int32)))]) (st' := [.int (0 : Int32)]) (by decide +kernel) rfl rfl ?_
        obtain rfl := Option.some.inj e
        exact Go.zret rfl nar_z0 (by decide) (by decide) (by decide +kernel)
      · replace e := ite_f c14 e
        refine Go.run (pc' := 138) [.iconst 1] (ls' := [some (.ref a0), some (.int x1), some (.int ((x1 / (1000 : Int32)) - (x1 / (1000 : Int32)) / (10 : Int32) * (10 : Int32))), some (.int ((x1 / (100 : Int32)) - (x1 / (100 : Int32)) / (10 : Int32) * (10 : Int32))), some (.int ((x1 / (10 : Int32)) - (x1 / (10 : Int32)) / (100 : Int32) * (100 : Int32))), some (.int (x1 - x1 / (100 : Int32) * (100 : Int32))), some (.int (x1 - x1 / (10 : Int32) * (10 : Int32)))]) (st' := [.int (1 : Int32)]) (by decide +kernel) rfl rfl ?_
        refine Go.goto (off := 4) (tgt := 142) (by decide +kernel) (by decide) ?_
        obtain rfl := Option.some.inj e
        exact Go.zret rfl nar_z1 (by decide) (by decide) (by decide +kernel)
  replace e := ite_f c10 e
  rcases Decidable.em ((x1 / (10000 : Int32)) = 4) with c15 | c15
  · replace e := ite_t c15 e
    refine Go.tsIn (dflt := 235) (lo := 1) (hi := 9) (offs := #[49, 58, 78, 100, 125, 145, 155, 175, 201]) (len := 49) (off := 100) (tgt := 143) 4 (by decide +kernel) (by rw [c15]; decide) (by decide) (by decide) (by decide) (by decide) ?_
    refine Go.run (pc' := 150) [.iload_n 1, .sipush (10000), .irem, .bipush (100)] (ls' := [some (.ref a0), some (.int x1), some (.int ((x1 / (1000 : Int32)) - (x1 / (1000 : Int32)) / (10 : Int32) * (10 : Int32))), some (.int ((x1 / (100 : Int32)) - (x1 / (100 : Int32)) / (10 : Int32) * (10 : Int32))), some (.int ((x1 / (10 : Int32)) - (x1 / (10 : Int32)) / (100 : Int32) * (100 : Int32))), some (.int (x1 - x1 / (100 : Int32) * (100 : Int32))), some (.int (x1 - x1 / (10 : Int32) * (10 : Int32)))]) (st' := [.int (100 : Int32), .int (x1 - x1 / (10000 : Int32) * (10000 : Int32))]) (by decide +kernel) rfl rfl ?_
    refine Go.ic_ge (off := 16) (tgt := 166) (by decide +kernel) (by decide) (fun c16 => ?_) (fun c16 => ?_)
    · replace e := ite_t c16 e
      refine Go.run (pc' := 167) [.iconst 0] (ls' := [some (.ref a0), some (.int x1), some (.int ((x1 / (1000 : Int32)) - (x1 / (1000 : Int32)) / (10 : Int32) * (10 : Int32))), some (.int ((x1 / (100 : Int32)) - (x1 / (100 : Int32)) / (10 : Int32) * (10 : Int32))), some (.int ((x1 / (10 : Int32)) - (x1 / (10 : Int32)) / (100 : Int32) * (100 : Int32))), some (.int (x1 - x1 / (100 : Int32) * (100 : Int32))), some (.int (x1 - x1 / (10 : Int32) * (10 : Int32)))]) (st' := [.int (0 : Int32)]) (by decide +kernel) rfl rfl ?_
      obtain rfl := Option.some.inj e
      exact Go.zret rfl nar_z0 (by decide) (by decide) (by decide +kernel)
    · replace e := ite_f c16 e
      refine Go.run (pc' := 156) [.aload_n 0, .iload 5] (ls' := [some (.ref a0), some (.int x1), some (.int ((x1 / (1000 : Int32)) - (x1 / (1000 : Int32)) / (10 : Int32) * (10 : Int32))), some (.int ((x1 / (100 : Int32)) - (x1 / (100 : Int32)) / (10 : Int32) * (10 : Int32))), some (.int ((x1 / (10 : Int32)) - (x1 / (10 : Int32)) / (100 : Int32) * (100 : Int32))), some (.int (x1 - x1 / (100 : Int32) * (100 : Int32))), some (.int (x1 - x1 / (10 : Int32) * (10 : Int32)))]) (st' := [.int (x1 - x1 / (100 : Int32) * (100 : Int32)), .ref a0]) (by decide +kernel) rfl rfl ?_
      obtain ⟨v17, e18, e⟩ := bd_inv e
      refine Go.callV (M2 := m_M_runDays) (a := a0) (as := [.int (x1 - x1 / (100 : Int32) * (100 : Int32))]) (rest := []) (v := some (.int v17.1)) (h1 := v17.2) (x_M_runDays hf hI k0 e18) wv_M_293 k0 kc_8 (by decide +kernel) rfl rfl ⟨⟨Nat.le_of_ble_eq_true rfl, Nat.le_of_ble_eq_true rfl⟩, ⟨Nat.le_of_ble_eq_true rfl, Nat.le_of_ble_eq_true rfl⟩⟩ (Nat.le_of_ble_eq_true rfl) ?_
      show Go l D ad aC (rmk m_M_command) _ m_M_command 159 [some (.ref a0), some (.int x1), some (.int ((x1 / (1000 : Int32)) - (x1 / (1000 : Int32)) / (10 : Int32) * (10 : Int32))), some (.int ((x1 / (100 : Int32)) - (x1 / (100 : Int32)) / (10 : Int32) * (10 : Int32))), some (.int ((x1 / (10 : Int32)) - (x1 / (10 : Int32)) / (100 : Int32) * (100 : Int32))), some (.int (x1 - x1 / (100 : Int32) * (100 : Int32))), some (.int (x1 - x1 / (10 : Int32) * (10 : Int32)))] [.int v17.1] v17.2 0 0
      refine Go.if_eq (off := 7) (tgt := 166) (by decide +kernel) (by decide) (fun c19 => ?_) (fun c19 => ?_)
      · replace e := ite_t c19 e
        refine Go.run (pc' := 167) [.iconst 0] (ls' := [some (.ref a0), some (.int x1), some (.int ((x1 / (1000 : Int32)) - (x1 / (1000 : Int32)) / (10 : Int32) * (10 : Int32))), some (.int ((x1 / (100 : Int32)) - (x1 / (100 : Int32)) / (10 : Int32) * (10 : Int32))), some (.int ((x1 / (10 : Int32)) - (x1 / (10 : Int32)) / (100 : Int32) * (100 : Int32))), some (.int (x1 - x1 / (100 : Int32) * (100 : Int32))), some (.int (x1 - x1 / (10 : Int32) * (10 : Int32)))]) (st' := [.int (0 : Int32)]) (by decide +kernel) rfl rfl ?_
        obtain rfl := Option.some.inj e
        exact Go.zret rfl nar_z0 (by decide) (by decide) (by decide +kernel)
      · replace e := ite_f c19 e
        refine Go.run (pc' := 163) [.iconst 1] (ls' := [some (.ref a0), some (.int x1), some (.int ((x1 / (1000 : Int32)) - (x1 / (1000 : Int32)) / (10 : Int32) * (10 : Int32))), some (.int ((x1 / (100 : Int32)) - (x1 / (100 : Int32)) / (10 : Int32) * (10 : Int32))), some (.int ((x1 / (10 : Int32)) - (x1 / (10 : Int32)) / (100 : Int32) * (100 : Int32))), some (.int (x1 - x1 / (100 : Int32) * (100 : Int32))), some (.int (x1 - x1 / (10 : Int32) * (10 : Int32)))]) (st' := [.int (1 : Int32)]) (by decide +kernel) rfl rfl ?_
        refine Go.goto (off := 4) (tgt := 167) (by decide +kernel) (by decide) ?_
        obtain rfl := Option.some.inj e
        exact Go.zret rfl nar_z1 (by decide) (by decide) (by decide +kernel)
  replace e := ite_f c15 e
  rcases Decidable.em ((x1 / (10000 : Int32)) = 5) with c20 | c20
  · replace e := ite_t c20 e
    refine Go.tsIn (dflt := 235) (lo := 1) (hi := 9) (offs := #[49, 58, 78, 100, 125, 145, 155, 175, 201]) (len := 49) (off := 125) (tgt := 168) 5 (by decide +kernel) (by rw [c20]; decide) (by decide) (by decide) (by decide) (by decide) ?_
    refine Go.run (pc' := 169) [.iload_n 3] (ls' := [some (.ref a0), some (.int x1), some (.int ((x1 / (1000 : Int32)) - (x1 / (1000 : Int32)) / (10 : Int32) * (10 : Int32))), some (.int ((x1 / (100 : Int32)) - (x1 / (100 : Int32)) / (10 : Int32) * (10 : Int32))), some (.int ((x1 / (10 : Int32)) - (x1 / (10 : Int32)) / (100 : Int32) * (100 : Int32))), some (.int (x1 - x1 / (100 : Int32) * (100 : Int32))), some (.int (x1 - x1 / (10 : Int32) * (10 : Int32)))]) (st' := [.int ((x1 / (100 : Int32)) - (x1 / (100 : Int32)) / (10 : Int32) * (10 : Int32))]) (by decide +kernel) rfl rfl ?_
    refine Go.if_ne (off := 17) (tgt := 186) (by decide +kernel) (by decide) (fun c21 => ?_) (fun c21 => ?_)
    · replace e := ite_f c21 e
      refine Go.run (pc' := 187) [.iconst 0] (ls' := [some (.ref a0), some (.int x1), some (.int ((x1 / (1000 : Int32)) - (x1 / (1000 : Int32)) / (10 : Int32) * (10 : Int32))), some (.int ((x1 / (100 : Int32)) - (x1 / (100 : Int32)) / (10 : Int32) * (10 : Int32))), some (.int ((x1 / (10 : Int32)) - (x1 / (10 : Int32)) / (100 : Int32) * (100 : Int32))), some (.int (x1 - x1 / (100 : Int32) * (100 : Int32))), some (.int (x1 - x1 / (10 : Int32) * (10 : Int32)))]) (st' := [.int (0 : Int32)]) (by decide +kernel) rfl rfl ?_
      obtain rfl := Option.some.inj e
      exact Go.zret rfl nar_z0 (by decide) (by decide) (by decide +kernel)
    · replace e := ite_t c21 e
      refine Go.run (pc' := 176) [.aload_n 0, .iload_n 2, .iload 5] (ls' := [some (.ref a0), some (.int x1), some (.int ((x1 / (1000 : Int32)) - (x1 / (1000 : Int32)) / (10 : Int32) * (10 : Int32))), some (.int ((x1 / (100 : Int32)) - (x1 / (100 : Int32)) / (10 : Int32) * (10 : Int32))), some (.int ((x1 / (10 : Int32)) - (x1 / (10 : Int32)) / (100 : Int32) * (100 : Int32))), some (.int (x1 - x1 / (100 : Int32) * (100 : Int32))), some (.int (x1 - x1 / (10 : Int32) * (10 : Int32)))]) (st' := [.int (x1 - x1 / (100 : Int32) * (100 : Int32)), .int ((x1 / (1000 : Int32)) - (x1 / (1000 : Int32)) / (10 : Int32) * (10 : Int32)), .ref a0]) (by decide +kernel) rfl rfl ?_
      obtain ⟨v22, e23, e⟩ := bd_inv e
      refine Go.callV (M2 := m_M_runSet) (a := a0) (as := [.int ((x1 / (1000 : Int32)) - (x1 / (1000 : Int32)) / (10 : Int32) * (10 : Int32)), .int (x1 - x1 / (100 : Int32) * (100 : Int32))]) (rest := []) (v := some (.int v22.1)) (h1 := v22.2) (x_M_runSet hf hI k0 e23) wv_M_296 k0 kc_8 (by decide +kernel) rfl rfl ⟨⟨Nat.le_of_ble_eq_true rfl, Nat.le_of_ble_eq_true rfl⟩, ⟨Nat.le_of_ble_eq_true rfl, Nat.le_of_ble_eq_true rfl⟩⟩ (Nat.le_of_ble_eq_true rfl) ?_
      show Go l D ad aC (rmk m_M_command) _ m_M_command 179 [some (.ref a0), some (.int x1), some (.int ((x1 / (1000 : Int32)) - (x1 / (1000 : Int32)) / (10 : Int32) * (10 : Int32))), some (.int ((x1 / (100 : Int32)) - (x1 / (100 : Int32)) / (10 : Int32) * (10 : Int32))), some (.int ((x1 / (10 : Int32)) - (x1 / (10 : Int32)) / (100 : Int32) * (100 : Int32))), some (.int (x1 - x1 / (100 : Int32) * (100 : Int32))), some (.int (x1 - x1 / (10 : Int32) * (10 : Int32)))] [.int v22.1] v22.2 0 0
      refine Go.if_eq (off := 7) (tgt := 186) (by decide +kernel) (by decide) (fun c24 => ?_) (fun c24 => ?_)
      · replace e := ite_t c24 e
        refine Go.run (pc' := 187) [.iconst 0] (ls' := [some (.ref a0), some (.int x1), some (.int ((x1 / (1000 : Int32)) - (x1 / (1000 : Int32)) / (10 : Int32) * (10 : Int32))), some (.int ((x1 / (100 : Int32)) - (x1 / (100 : Int32)) / (10 : Int32) * (10 : Int32))), some (.int ((x1 / (10 : Int32)) - (x1 / (10 : Int32)) / (100 : Int32) * (100 : Int32))), some (.int (x1 - x1 / (100 : Int32) * (100 : Int32))), some (.int (x1 - x1 / (10 : Int32) * (10 : Int32)))]) (st' := [.int (0 : Int32)]) (by decide +kernel) rfl rfl ?_
        obtain rfl := Option.some.inj e
        exact Go.zret rfl nar_z0 (by decide) (by decide) (by decide +kernel)
      · replace e := ite_f c24 e
        refine Go.run (pc' := 183) [.iconst 1] (ls' := [some (.ref a0), some (.int x1), some (.int ((x1 / (1000 : Int32)) - (x1 / (1000 : Int32)) / (10 : Int32) * (10 : Int32))), some (.int ((x1 / (100 : Int32)) - (x1 / (100 : Int32)) / (10 : Int32) * (10 : Int32))), some (.int ((x1 / (10 : Int32)) - (x1 / (10 : Int32)) / (100 : Int32) * (100 : Int32))), some (.int (x1 - x1 / (100 : Int32) * (100 : Int32))), some (.int (x1 - x1 / (10 : Int32) * (10 : Int32)))]) (st' := [.int (1 : Int32)]) (by decide +kernel) rfl rfl ?_
        refine Go.goto (off := 4) (tgt := 187) (by decide +kernel) (by decide) ?_
        obtain rfl := Option.some.inj e
        exact Go.zret rfl nar_z1 (by decide) (by decide) (by decide +kernel)
  replace e := ite_f c20 e
  rcases Decidable.em ((x1 / (10000 : Int32)) = 6) with c25 | c25
  · replace e := ite_t c25 e
    refine Go.tsIn (dflt := 235) (lo := 1) (hi := 9) (offs := #[49, 58, 78, 100, 125, 145, 155, 175, 201]) (len := 49) (off := 145) (tgt := 188) 6 (by decide +kernel) (by rw [c25]; decide) (by decide) (by decide) (by decide) (by decide) ?_
    refine Go.run (pc' := 194) [.aload_n 0, .iload_n 2, .iload 4, .iload 6] (ls' := [some (.ref a0), some (.int x1), some (.int ((x1 / (1000 : Int32)) - (x1 / (1000 : Int32)) / (10 : Int32) * (10 : Int32))), some (.int ((x1 / (100 : Int32)) - (x1 / (100 : Int32)) / (10 : Int32) * (10 : Int32))), some (.int ((x1 / (10 : Int32)) - (x1 / (10 : Int32)) / (100 : Int32) * (100 : Int32))), some (.int (x1 - x1 / (100 : Int32) * (100 : Int32))), some (.int (x1 - x1 / (10 : Int32) * (10 : Int32)))]) (st' := [.int (x1 - x1 / (10 : Int32) * (10 : Int32)), .int ((x1 / (10 : Int32)) - (x1 / (10 : Int32)) / (100 : Int32) * (100 : Int32)), .int ((x1 / (1000 : Int32)) - (x1 / (1000 : Int32)) / (10 : Int32) * (10 : Int32)), .ref a0]) (by decide +kernel) rfl rfl ?_
    obtain ⟨v26, e27, e⟩ := bd_inv e
    refine Go.callV (M2 := m_M_runOutlet) (a := a0) (as := [.int ((x1 / (1000 : Int32)) - (x1 / (1000 : Int32)) / (10 : Int32) * (10 : Int32)), .int ((x1 / (10 : Int32)) - (x1 / (10 : Int32)) / (100 : Int32) * (100 : Int32)), .int (x1 - x1 / (10 : Int32) * (10 : Int32))]) (rest := []) (v := some (.int v26.1)) (h1 := v26.2) (x_M_runOutlet hf hI k0 e27) wv_M_299 k0 kc_8 (by decide +kernel) rfl rfl ⟨⟨Nat.le_of_ble_eq_true rfl, Nat.le_of_ble_eq_true rfl⟩, ⟨Nat.le_of_ble_eq_true rfl, Nat.le_of_ble_eq_true rfl⟩⟩ (Nat.le_of_ble_eq_true rfl) ?_
    show Go l D ad aC (rmk m_M_command) _ m_M_command 197 [some (.ref a0), some (.int x1), some (.int ((x1 / (1000 : Int32)) - (x1 / (1000 : Int32)) / (10 : Int32) * (10 : Int32))), some (.int ((x1 / (100 : Int32)) - (x1 / (100 : Int32)) / (10 : Int32) * (10 : Int32))), some (.int ((x1 / (10 : Int32)) - (x1 / (10 : Int32)) / (100 : Int32) * (100 : Int32))), some (.int (x1 - x1 / (100 : Int32) * (100 : Int32))), some (.int (x1 - x1 / (10 : Int32) * (10 : Int32)))] [.int v26.1] v26.2 0 0
    obtain ⟨g28, e⟩ := gd_inv e
    obtain rfl := Option.some.inj e
    exact Go.zret rfl (isB_nar g28) (by decide) (by decide) (by decide +kernel)
  replace e := ite_f c25 e
  rcases Decidable.em ((x1 / (10000 : Int32)) = 7) with c29 | c29
  · replace e := ite_t c29 e
    refine Go.tsIn (dflt := 235) (lo := 1) (hi := 9) (offs := #[49, 58, 78, 100, 125, 145, 155, 175, 201]) (len := 49) (off := 155) (tgt := 198) 7 (by decide +kernel) (by rw [c29]; decide) (by decide) (by decide) (by decide) (by decide) ?_
    refine Go.run (pc' := 199) [.iload_n 3] (ls' := [some (.ref a0), some (.int x1), some (.int ((x1 / (1000 : Int32)) - (x1 / (1000 : Int32)) / (10 : Int32) * (10 : Int32))), some (.int ((x1 / (100 : Int32)) - (x1 / (100 : Int32)) / (10 : Int32) * (10 : Int32))), some (.int ((x1 / (10 : Int32)) - (x1 / (10 : Int32)) / (100 : Int32) * (100 : Int32))), some (.int (x1 - x1 / (100 : Int32) * (100 : Int32))), some (.int (x1 - x1 / (10 : Int32) * (10 : Int32)))]) (st' := [.int ((x1 / (100 : Int32)) - (x1 / (100 : Int32)) / (10 : Int32) * (10 : Int32))]) (by decide +kernel) rfl rfl ?_
    refine Go.if_ne (off := 17) (tgt := 216) (by decide +kernel) (by decide) (fun c30 => ?_) (fun c30 => ?_)
    · replace e := ite_f c30 e
      refine Go.run (pc' := 217) [.iconst 0] (ls' := [some (.ref a0), some (.int x1), some (.int ((x1 / (1000 : Int32)) - (x1 / (1000 : Int32)) / (10 : Int32) * (10 : Int32))), some (.int ((x1 / (100 : Int32)) - (x1 / (100 : Int32)) / (10 : Int32) * (10 : Int32))), some (.int ((x1 / (10 : Int32)) - (x1 / (10 : Int32)) / (100 : Int32) * (100 : Int32))), some (.int (x1 - x1 / (100 : Int32) * (100 : Int32))), some (.int (x1 - x1 / (10 : Int32) * (10 : Int32)))]) (st' := [.int (0 : Int32)]) (by decide +kernel) rfl rfl ?_
      obtain rfl := Option.some.inj e
      exact Go.zret rfl nar_z0 (by decide) (by decide) (by decide +kernel)
    · replace e := ite_t c30 e
      refine Go.run (pc' := 206) [.aload_n 0, .iload_n 2, .iload 5] (ls' := [some (.ref a0), some (.int x1), some (.int ((x1 / (1000 : Int32)) - (x1 / (1000 : Int32)) / (10 : Int32) * (10 : Int32))), some (.int ((x1 / (100 : Int32)) - (x1 / (100 : Int32)) / (10 : Int32) * (10 : Int32))), some (.int ((x1 / (10 : Int32)) - (x1 / (10 : Int32)) / (100 : Int32) * (100 : Int32))), some (.int (x1 - x1 / (100 : Int32) * (100 : Int32))), some (.int (x1 - x1 / (10 : Int32) * (10 : Int32)))]) (st' := [.int (x1 - x1 / (100 : Int32) * (100 : Int32)), .int ((x1 / (1000 : Int32)) - (x1 / (1000 : Int32)) / (10 : Int32) * (10 : Int32)), .ref a0]) (by decide +kernel) rfl rfl ?_
      obtain ⟨v31, e32, e⟩ := bd_inv e
      refine Go.callV (M2 := m_M_isCheap) (a := a0) (as := [.int ((x1 / (1000 : Int32)) - (x1 / (1000 : Int32)) / (10 : Int32) * (10 : Int32)), .int (x1 - x1 / (100 : Int32) * (100 : Int32))]) (rest := []) (v := some (.int v31.1)) (h1 := v31.2) (x_M_isCheap hf hI k0 e32) wv_M_302 k0 kc_8 (by decide +kernel) rfl rfl ⟨⟨Nat.le_of_ble_eq_true rfl, Nat.le_of_ble_eq_true rfl⟩, ⟨Nat.le_of_ble_eq_true rfl, Nat.le_of_ble_eq_true rfl⟩⟩ (Nat.le_of_ble_eq_true rfl) ?_
      show Go l D ad aC (rmk m_M_command) _ m_M_command 209 [some (.ref a0), some (.int x1), some (.int ((x1 / (1000 : Int32)) - (x1 / (1000 : Int32)) / (10 : Int32) * (10 : Int32))), some (.int ((x1 / (100 : Int32)) - (x1 / (100 : Int32)) / (10 : Int32) * (10 : Int32))), some (.int ((x1 / (10 : Int32)) - (x1 / (10 : Int32)) / (100 : Int32) * (100 : Int32))), some (.int (x1 - x1 / (100 : Int32) * (100 : Int32))), some (.int (x1 - x1 / (10 : Int32) * (10 : Int32)))] [.int v31.1] v31.2 0 0
      refine Go.if_eq (off := 7) (tgt := 216) (by decide +kernel) (by decide) (fun c33 => ?_) (fun c33 => ?_)
      · replace e := ite_t c33 e
        refine Go.run (pc' := 217) [.iconst 0] (ls' := [some (.ref a0), some (.int x1), some (.int ((x1 / (1000 : Int32)) - (x1 / (1000 : Int32)) / (10 : Int32) * (10 : Int32))), some (.int ((x1 / (100 : Int32)) - (x1 / (100 : Int32)) / (10 : Int32) * (10 : Int32))), some (.int ((x1 / (10 : Int32)) - (x1 / (10 : Int32)) / (100 : Int32) * (100 : Int32))), some (.int (x1 - x1 / (100 : Int32) * (100 : Int32))), some (.int (x1 - x1 / (10 : Int32) * (10 : Int32)))]) (st' := [.int (0 : Int32)]) (by decide +kernel) rfl rfl ?_
        obtain rfl := Option.some.inj e
        exact Go.zret rfl nar_z0 (by decide) (by decide) (by decide +kernel)
      · replace e := ite_f c33 e
        refine Go.run (pc' := 213) [.iconst 1] (ls' := [some (.ref a0), some (.int x1), some (.int ((x1 / (1000 : Int32)) - (x1 / (1000 : Int32)) / (10 : Int32) * (10 : Int32))), some (.int ((x1 / (100 : Int32)) - (x1 / (100 : Int32)) / (10 : Int32) * (10 : Int32))), some (.int ((x1 / (10 : Int32)) - (x1 / (10 : Int32)) / (100 : Int32) * (100 : Int32))), some (.int (x1 - x1 / (100 : Int32) * (100 : Int32))), some (.int (x1 - x1 / (10 : Int32) * (10 : Int32)))]) (st' := [.int (1 : Int32)]) (by decide +kernel) rfl rfl ?_
        refine Go.goto (off := 4) (tgt := 217) (by decide +kernel) (by decide) ?_
        obtain rfl := Option.some.inj e
        exact Go.zret rfl nar_z1 (by decide) (by decide) (by decide +kernel)
  replace e := ite_f c29 e
  rcases Decidable.em ((x1 / (10000 : Int32)) = 8) with c34 | c34
  · replace e := ite_t c34 e
    refine Go.tsIn (dflt := 235) (lo := 1) (hi := 9) (offs := #[49, 58, 78, 100, 125, 145, 155, 175, 201]) (len := 49) (off := 175) (tgt := 218) 8 (by decide +kernel) (by rw [c34]; decide) (by decide) (by decide) (by decide) (by decide) ?_
    refine Go.run (pc' := 225) [.iload_n 1, .sipush (1000), .irem, .bipush (10)] (ls' := [some (.ref a0), some (.int x1), some (.int ((x1 / (1000 : Int32)) - (x1 / (1000 : Int32)) / (10 : Int32) * (10 : Int32))), some (.int ((x1 / (100 : Int32)) - (x1 / (100 : Int32)) / (10 : Int32) * (10 : Int32))), some (.int ((x1 / (10 : Int32)) - (x1 / (10 : Int32)) / (100 : Int32) * (100 : Int32))), some (.int (x1 - x1 / (100 : Int32) * (100 : Int32))), some (.int (x1 - x1 / (10 : Int32) * (10 : Int32)))]) (st' := [.int (10 : Int32), .int (x1 - x1 / (1000 : Int32) * (1000 : Int32))]) (by decide +kernel) rfl rfl ?_
    refine Go.ic_ge (off := 17) (tgt := 242) (by decide +kernel) (by decide) (fun c35 => ?_) (fun c35 => ?_)
    · replace e := ite_t c35 e
      refine Go.run (pc' := 243) [.iconst 0] (ls' := [some (.ref a0), some (.int x1), some (.int ((x1 / (1000 : Int32)) - (x1 / (1000 : Int32)) / (10 : Int32) * (10 : Int32))), some (.int ((x1 / (100 : Int32)) - (x1 / (100 : Int32)) / (10 : Int32) * (10 : Int32))), some (.int ((x1 / (10 : Int32)) - (x1 / (10 : Int32)) / (100 : Int32) * (100 : Int32))), some (.int (x1 - x1 / (100 : Int32) * (100 : Int32))), some (.int (x1 - x1 / (10 : Int32) * (10 : Int32)))]) (st' := [.int (0 : Int32)]) (by decide +kernel) rfl rfl ?_
      obtain rfl := Option.some.inj e
      exact Go.zret rfl nar_z0 (by decide) (by decide) (by decide +kernel)
    · replace e := ite_f c35 e
      refine Go.run (pc' := 232) [.aload_n 0, .iload_n 2, .iload 6] (ls' := [some (.ref a0), some (.int x1), some (.int ((x1 / (1000 : Int32)) - (x1 / (1000 : Int32)) / (10 : Int32) * (10 : Int32))), some (.int ((x1 / (100 : Int32)) - (x1 / (100 : Int32)) / (10 : Int32) * (10 : Int32))), some (.int ((x1 / (10 : Int32)) - (x1 / (10 : Int32)) / (100 : Int32) * (100 : Int32))), some (.int (x1 - x1 / (100 : Int32) * (100 : Int32))), some (.int (x1 - x1 / (10 : Int32) * (10 : Int32)))]) (st' := [.int (x1 - x1 / (10 : Int32) * (10 : Int32)), .int ((x1 / (1000 : Int32)) - (x1 / (1000 : Int32)) / (10 : Int32) * (10 : Int32)), .ref a0]) (by decide +kernel) rfl rfl ?_
      obtain ⟨v36, e37, e⟩ := bd_inv e
      refine Go.callV (M2 := m_M_isFed) (a := a0) (as := [.int ((x1 / (1000 : Int32)) - (x1 / (1000 : Int32)) / (10 : Int32) * (10 : Int32)), .int (x1 - x1 / (10 : Int32) * (10 : Int32))]) (rest := []) (v := some (.int v36.1)) (h1 := v36.2) (x_M_isFed hf hI k0 e37) wv_M_305 k0 kc_8 (by decide +kernel) rfl rfl ⟨⟨Nat.le_of_ble_eq_true rfl, Nat.le_of_ble_eq_true rfl⟩, ⟨Nat.le_of_ble_eq_true rfl, Nat.le_of_ble_eq_true rfl⟩⟩ (Nat.le_of_ble_eq_true rfl) ?_
      show Go l D ad aC (rmk m_M_command) _ m_M_command 235 [some (.ref a0), some (.int x1), some (.int ((x1 / (1000 : Int32)) - (x1 / (1000 : Int32)) / (10 : Int32) * (10 : Int32))), some (.int ((x1 / (100 : Int32)) - (x1 / (100 : Int32)) / (10 : Int32) * (10 : Int32))), some (.int ((x1 / (10 : Int32)) - (x1 / (10 : Int32)) / (100 : Int32) * (100 : Int32))), some (.int (x1 - x1 / (100 : Int32) * (100 : Int32))), some (.int (x1 - x1 / (10 : Int32) * (10 : Int32)))] [.int v36.1] v36.2 0 0
      refine Go.if_eq (off := 7) (tgt := 242) (by decide +kernel) (by decide) (fun c38 => ?_) (fun c38 => ?_)
      · replace e := ite_t c38 e
        refine Go.run (pc' := 243) [.iconst 0] (ls' := [some (.ref a0), some (.int x1), some (.int ((x1 / (1000 : Int32)) - (x1 / (1000 : Int32)) / (10 : Int32) * (10 : Int32))), some (.int ((x1 / (100 : Int32)) - (x1 / (100 : Int32)) / (10 : Int32) * (10 : Int32))), some (.int ((x1 / (10 : Int32)) - (x1 / (10 : Int32)) / (100 : Int32) * (100 : Int32))), some (.int (x1 - x1 / (100 : Int32) * (100 : Int32))), some (.int (x1 - x1 / (10 : Int32) * (10 : Int32)))]) (st' := [.int (0 : Int32)]) (by decide +kernel) rfl rfl ?_
        obtain rfl := Option.some.inj e
        exact Go.zret rfl nar_z0 (by decide) (by decide) (by decide +kernel)
      · replace e := ite_f c38 e
        refine Go.run (pc' := 239) [.iconst 1] (ls' := [some (.ref a0), some (.int x1), some (.int ((x1 / (1000 : Int32)) - (x1 / (1000 : Int32)) / (10 : Int32) * (10 : Int32))), some (.int ((x1 / (100 : Int32)) - (x1 / (100 : Int32)) / (10 : Int32) * (10 : Int32))), some (.int ((x1 / (10 : Int32)) - (x1 / (10 : Int32)) / (100 : Int32) * (100 : Int32))), some (.int (x1 - x1 / (100 : Int32) * (100 : Int32))), some (.int (x1 - x1 / (10 : Int32) * (10 : Int32)))]) (st' := [.int (1 : Int32)]) (by decide +kernel) rfl rfl ?_
        refine Go.goto (off := 4) (tgt := 243) (by decide +kernel) (by decide) ?_
        obtain rfl := Option.some.inj e
        exact Go.zret rfl nar_z1 (by decide) (by decide) (by decide +kernel)
  replace e := ite_f c34 e
  rcases Decidable.em ((x1 / (10000 : Int32)) = 9) with c39 | c39
  · replace e := ite_t c39 e
    refine Go.tsIn (dflt := 235) (lo := 1) (hi := 9) (offs := #[49, 58, 78, 100, 125, 145, 155, 175, 201]) (len := 49) (off := 201) (tgt := 244) 9 (by decide +kernel) (by rw [c39]; decide) (by decide) (by decide) (by decide) (by decide) ?_
    refine Go.run (pc' := 245) [.iload_n 3] (ls' := [some (.ref a0), some (.int x1), some (.int ((x1 / (1000 : Int32)) - (x1 / (1000 : Int32)) / (10 : Int32) * (10 : Int32))), some (.int ((x1 / (100 : Int32)) - (x1 / (100 : Int32)) / (10 : Int32) * (10 : Int32))), some (.int ((x1 / (10 : Int32)) - (x1 / (10 : Int32)) / (100 : Int32) * (100 : Int32))), some (.int (x1 - x1 / (100 : Int32) * (100 : Int32))), some (.int (x1 - x1 / (10 : Int32) * (10 : Int32)))]) (st' := [.int ((x1 / (100 : Int32)) - (x1 / (100 : Int32)) / (10 : Int32) * (10 : Int32))]) (by decide +kernel) rfl rfl ?_
    refine Go.if_ne (off := 31) (tgt := 276) (by decide +kernel) (by decide) (fun c40 => ?_) (fun c40 => ?_)
    · replace e := ite_f c40 e
      refine Go.run (pc' := 277) [.iconst 0] (ls' := [some (.ref a0), some (.int x1), some (.int ((x1 / (1000 : Int32)) - (x1 / (1000 : Int32)) / (10 : Int32) * (10 : Int32))), some (.int ((x1 / (100 : Int32)) - (x1 / (100 : Int32)) / (10 : Int32) * (10 : Int32))), some (.int ((x1 / (10 : Int32)) - (x1 / (10 : Int32)) / (100 : Int32) * (100 : Int32))), some (.int (x1 - x1 / (100 : Int32) * (100 : Int32))), some (.int (x1 - x1 / (10 : Int32) * (10 : Int32)))]) (st' := [.int (0 : Int32)]) (by decide +kernel) rfl rfl ?_
      obtain rfl := Option.some.inj e
      exact Go.zret rfl nar_z0 (by decide) (by decide) (by decide +kernel)
    · replace e := ite_t c40 e
      refine Go.run (pc' := 249) [.aload_n 0] (ls' := [some (.ref a0), some (.int x1), some (.int ((x1 / (1000 : Int32)) - (x1 / (1000 : Int32)) / (10 : Int32) * (10 : Int32))), some (.int ((x1 / (100 : Int32)) - (x1 / (100 : Int32)) / (10 : Int32) * (10 : Int32))), some (.int ((x1 / (10 : Int32)) - (x1 / (10 : Int32)) / (100 : Int32) * (100 : Int32))), some (.int (x1 - x1 / (100 : Int32) * (100 : Int32))), some (.int (x1 - x1 / (10 : Int32) * (10 : Int32)))]) (st' := [.ref a0]) (by decide +kernel) rfl rfl ?_
      refine Go.getR fo_M_13 k0 (by decide +kernel) ?_
      refine Go.run (pc' := 253) [.iload_n 2] (ls' := [some (.ref a0), some (.int x1), some (.int ((x1 / (1000 : Int32)) - (x1 / (1000 : Int32)) / (10 : Int32) * (10 : Int32))), some (.int ((x1 / (100 : Int32)) - (x1 / (100 : Int32)) / (10 : Int32) * (10 : Int32))), some (.int ((x1 / (10 : Int32)) - (x1 / (10 : Int32)) / (100 : Int32) * (100 : Int32))), some (.int (x1 - x1 / (100 : Int32) * (100 : Int32))), some (.int (x1 - x1 / (10 : Int32) * (10 : Int32)))]) (st' := [.int ((x1 / (1000 : Int32)) - (x1 / (1000 : Int32)) / (10 : Int32) * (10 : Int32)), .ref (fld a0 2)]) (by decide +kernel) rfl rfl ?_
      obtain ⟨v41, e42, e⟩ := bd_inv e
      refine Go.callS (M2 := m_M_isWall) (as := [.ref (fld a0 2), .int ((x1 / (1000 : Int32)) - (x1 / (1000 : Int32)) / (10 : Int32) * (10 : Int32))]) (rest := []) (v := some (.int v41)) (h1 := h) (x_M_isWall hf hI (kf_8_j 2 k0 (by decide) (by decide)) (al_8_j 2 k0 (by decide) (by decide) rfl) e42) ws_M_55 (by decide +kernel) rfl rfl ⟨⟨Nat.le_of_ble_eq_true rfl, Nat.le_of_ble_eq_true rfl⟩, ⟨Nat.le_of_ble_eq_true rfl, Nat.le_of_ble_eq_true rfl⟩⟩ (Nat.le_of_ble_eq_true rfl) ?_
      show Go l D ad aC (rmk m_M_command) _ m_M_command 256 [some (.ref a0), some (.int x1), some (.int ((x1 / (1000 : Int32)) - (x1 / (1000 : Int32)) / (10 : Int32) * (10 : Int32))), some (.int ((x1 / (100 : Int32)) - (x1 / (100 : Int32)) / (10 : Int32) * (10 : Int32))), some (.int ((x1 / (10 : Int32)) - (x1 / (10 : Int32)) / (100 : Int32) * (100 : Int32))), some (.int (x1 - x1 / (100 : Int32) * (100 : Int32))), some (.int (x1 - x1 / (10 : Int32) * (10 : Int32)))] [.int v41] h 0 0
      refine Go.if_eq (off := 20) (tgt := 276) (by decide +kernel) (by decide) (fun c43 => ?_) (fun c43 => ?_)
      · replace e := ite_t c43 e
        refine Go.run (pc' := 277) [.iconst 0] (ls' := [some (.ref a0), some (.int x1), some (.int ((x1 / (1000 : Int32)) - (x1 / (1000 : Int32)) / (10 : Int32) * (10 : Int32))), some (.int ((x1 / (100 : Int32)) - (x1 / (100 : Int32)) / (10 : Int32) * (10 : Int32))), some (.int ((x1 / (10 : Int32)) - (x1 / (10 : Int32)) / (100 : Int32) * (100 : Int32))), some (.int (x1 - x1 / (100 : Int32) * (100 : Int32))), some (.int (x1 - x1 / (10 : Int32) * (10 : Int32)))]) (st' := [.int (0 : Int32)]) (by decide +kernel) rfl rfl ?_
        obtain rfl := Option.some.inj e
        exact Go.zret rfl nar_z0 (by decide) (by decide) (by decide +kernel)
      · replace e := ite_f c43 e
        refine Go.run (pc' := 260) [.aload_n 0] (ls' := [some (.ref a0), some (.int x1), some (.int ((x1 / (1000 : Int32)) - (x1 / (1000 : Int32)) / (10 : Int32) * (10 : Int32))), some (.int ((x1 / (100 : Int32)) - (x1 / (100 : Int32)) / (10 : Int32) * (10 : Int32))), some (.int ((x1 / (10 : Int32)) - (x1 / (10 : Int32)) / (100 : Int32) * (100 : Int32))), some (.int (x1 - x1 / (100 : Int32) * (100 : Int32))), some (.int (x1 - x1 / (10 : Int32) * (10 : Int32)))]) (st' := [.ref a0]) (by decide +kernel) rfl rfl ?_
        refine Go.getR fo_M_13 k0 (by decide +kernel) ?_
        refine Go.run (pc' := 264) [.iload_n 2] (ls' := [some (.ref a0), some (.int x1), some (.int ((x1 / (1000 : Int32)) - (x1 / (1000 : Int32)) / (10 : Int32) * (10 : Int32))), some (.int ((x1 / (100 : Int32)) - (x1 / (100 : Int32)) / (10 : Int32) * (10 : Int32))), some (.int ((x1 / (10 : Int32)) - (x1 / (10 : Int32)) / (100 : Int32) * (100 : Int32))), some (.int (x1 - x1 / (100 : Int32) * (100 : Int32))), some (.int (x1 - x1 / (10 : Int32) * (10 : Int32)))]) (st' := [.int ((x1 / (1000 : Int32)) - (x1 / (1000 : Int32)) / (10 : Int32) * (10 : Int32)), .ref (fld a0 2)]) (by decide +kernel) rfl rfl ?_
        obtain ⟨v44, e45, e⟩ := bd_inv e
        refine Go.callS (M2 := m_M_freeAt) (as := [.ref (fld a0 2), .int ((x1 / (1000 : Int32)) - (x1 / (1000 : Int32)) / (10 : Int32) * (10 : Int32))]) (rest := []) (v := some (.int v44)) (h1 := h) (x_M_freeAt hf hI (kf_8_j 2 k0 (by decide) (by decide)) (al_8_j 2 k0 (by decide) (by decide) rfl) e45) ws_M_231 (by decide +kernel) rfl rfl ⟨⟨Nat.le_of_ble_eq_true rfl, Nat.le_of_ble_eq_true rfl⟩, ⟨Nat.le_of_ble_eq_true rfl, Nat.le_of_ble_eq_true rfl⟩⟩ (Nat.le_of_ble_eq_true rfl) ?_
        show Go l D ad aC (rmk m_M_command) _ m_M_command 267 [some (.ref a0), some (.int x1), some (.int ((x1 / (1000 : Int32)) - (x1 / (1000 : Int32)) / (10 : Int32) * (10 : Int32))), some (.int ((x1 / (100 : Int32)) - (x1 / (100 : Int32)) / (10 : Int32) * (10 : Int32))), some (.int ((x1 / (10 : Int32)) - (x1 / (10 : Int32)) / (100 : Int32) * (100 : Int32))), some (.int (x1 - x1 / (100 : Int32) * (100 : Int32))), some (.int (x1 - x1 / (10 : Int32) * (10 : Int32)))] [.int v44] h 0 0
        refine Go.run (pc' := 269) [.iload 5] (ls' := [some (.ref a0), some (.int x1), some (.int ((x1 / (1000 : Int32)) - (x1 / (1000 : Int32)) / (10 : Int32) * (10 : Int32))), some (.int ((x1 / (100 : Int32)) - (x1 / (100 : Int32)) / (10 : Int32) * (10 : Int32))), some (.int ((x1 / (10 : Int32)) - (x1 / (10 : Int32)) / (100 : Int32) * (100 : Int32))), some (.int (x1 - x1 / (100 : Int32) * (100 : Int32))), some (.int (x1 - x1 / (10 : Int32) * (10 : Int32)))]) (st' := [.int (x1 - x1 / (100 : Int32) * (100 : Int32)), .int v44]) (by decide +kernel) rfl rfl ?_
        refine Go.ic_lt (off := 7) (tgt := 276) (by decide +kernel) (by decide) (fun c46 => ?_) (fun c46 => ?_)
        · replace e := ite_t c46 e
          refine Go.run (pc' := 277) [.iconst 0] (ls' := [some (.ref a0), some (.int x1), some (.int ((x1 / (1000 : Int32)) - (x1 / (1000 : Int32)) / (10 : Int32) * (10 : Int32))), some (.int ((x1 / (100 : Int32)) - (x1 / (100 : Int32)) / (10 : Int32) * (10 : Int32))), some (.int ((x1 / (10 : Int32)) - (x1 / (10 : Int32)) / (100 : Int32) * (100 : Int32))), some (.int (x1 - x1 / (100 : Int32) * (100 : Int32))), some (.int (x1 - x1 / (10 : Int32) * (10 : Int32)))]) (st' := [.int (0 : Int32)]) (by decide +kernel) rfl rfl ?_
          obtain rfl := Option.some.inj e
          exact Go.zret rfl nar_z0 (by decide) (by decide) (by decide +kernel)
        · replace e := ite_f c46 e
          refine Go.run (pc' := 273) [.iconst 1] (ls' := [some (.ref a0), some (.int x1), some (.int ((x1 / (1000 : Int32)) - (x1 / (1000 : Int32)) / (10 : Int32) * (10 : Int32))), some (.int ((x1 / (100 : Int32)) - (x1 / (100 : Int32)) / (10 : Int32) * (10 : Int32))), some (.int ((x1 / (10 : Int32)) - (x1 / (10 : Int32)) / (100 : Int32) * (100 : Int32))), some (.int (x1 - x1 / (100 : Int32) * (100 : Int32))), some (.int (x1 - x1 / (10 : Int32) * (10 : Int32)))]) (st' := [.int (1 : Int32)]) (by decide +kernel) rfl rfl ?_
          refine Go.goto (off := 4) (tgt := 277) (by decide +kernel) (by decide) ?_
          obtain rfl := Option.some.inj e
          exact Go.zret rfl nar_z1 (by decide) (by decide) (by decide +kernel)
  replace e := ite_f c39 e
  refine Go.tsOut (dflt := 235) (lo := 1) (hi := 9) (offs := #[49, 58, 78, 100, 125, 145, 155, 175, 201]) (len := 49) (tgt := 278) (by decide +kernel) (by have zc1 := lv_neT c1 (a := 1) rfl; have zc5 := lv_neT c5 (a := 2) rfl; have zc10 := lv_neT c10 (a := 3) rfl; have zc15 := lv_neT c15 (a := 4) rfl; have zc20 := lv_neT c20 (a := 5) rfl; have zc25 := lv_neT c25 (a := 6) rfl; have zc29 := lv_neT c29 (a := 7) rfl; have zc34 := lv_neT c34 (a := 8) rfl; have zc39 := lv_neT c39 (a := 9) rfl; omega) (by decide) ?_
  refine Go.run (pc' := 279) [.iconst 0] (ls' := [some (.ref a0), some (.int x1), some (.int ((x1 / (1000 : Int32)) - (x1 / (1000 : Int32)) / (10 : Int32) * (10 : Int32))), some (.int ((x1 / (100 : Int32)) - (x1 / (100 : Int32)) / (10 : Int32) * (10 : Int32))), some (.int ((x1 / (10 : Int32)) - (x1 / (10 : Int32)) / (100 : Int32) * (100 : Int32))), some (.int (x1 - x1 / (100 : Int32) * (100 : Int32))), some (.int (x1 - x1 / (10 : Int32) * (10 : Int32)))]) (st' := [.int (0 : Int32)]) (by decide +kernel) rfl rfl ?_
  obtain rfl := Option.some.inj e
  exact Go.zret rfl nar_z0 (by decide) (by decide) (by decide +kernel)
def f_M_runScript_56  : Nat → Nat → Int32 → Int64 → Int32 → HP → Option (Int32 × HP)
  | 0, _, _, _, _, _ => none
  | n + 1, a0, x1, y2, x4, h =>
    if x1 ≤ x4 then
      some ((-1 : Int32), h)
    else
      (f_M_tens h ((5 : Int32) * ((x1 - (1 : Int32)) - x4))).bind fun v2 =>
      if ¬ v2 = 0 then
      if ¬ (100000 : Int64) = 0 then
      (f_M_command h a0 (((y2 / v2) - (y2 / v2) / (100000 : Int64) * (100000 : Int64)).toInt32)).bind fun v6 =>
      if v6.1 = 0 then
        some (x4, v6.2)
      else
        f_M_runScript_56 n a0 x1 y2 (x4 + (1 : Int32)) v6.2
      else none
      else none
set_option maxHeartbeats 1000000 in
theorem x_M_runScript_56 {l : Launch} {D : va_G} {ad : Nat → Nat} {aC : Nat → ClassId} (hf : l.flags = flags0) (hI : Inj ad) : ∀ (n : Nat) {a0 : Nat} {x1 : Int32} {y2 : Int64} {x4 : Int32} {h : HP} {r : Int32 × HP}, knd a0 = 8 → f_M_runScript_56 n a0 x1 y2 x4 h = some r → Go l D ad aC (rmk m_M_runScript) (QM D ad aC m_M_runScript (.inl (some (.int r.1))) r.2) m_M_runScript 56 [some (.ref a0), some (.int x1), some (.long y2), none, some (.int x4)] [] h 0 0 := by
  intro n
  induction n with
  | zero => intro a0 x1 y2 x4 h r k0 e; exact no_none e
  | succ n ih =>
    intro a0 x1 y2 x4 h r k0 e
    rw [f_M_runScript_56] at e
    refine Go.run (pc' := 59) [.iload 4, .iload_n 1] (ls' := [some (.ref a0), some (.int x1), some (.long y2), none, some (.int x4)]) (st' := [.int x1, .int x4]) (by decide +kernel) rfl rfl ?_
    refine Go.ic_ge (off := 37) (tgt := 96) (by decide +kernel) (by decide) (fun c1 => ?_) (fun c1 => ?_)
    · replace e := ite_t c1 e
      refine Go.run (pc' := 97) [.iconst (-1)] (ls' := [some (.ref a0), some (.int x1), some (.long y2), none, some (.int x4)]) (st' := [.int (-1 : Int32)]) (by decide +kernel) rfl rfl ?_
      obtain rfl := Option.some.inj e
      exact Go.iret rfl (by decide) (by decide) (by decide +kernel)
    · replace e := ite_f c1 e
      refine Go.run (pc' := 72) [.aload_n 0, .lload_n 2, .iconst 5, .iload_n 1, .iconst 1, .isub, .iload 4, .isub, .imul] (ls' := [some (.ref a0), some (.int x1), some (.long y2), none, some (.int x4)]) (st' := [.int ((5 : Int32) * ((x1 - (1 : Int32)) - x4)), .long y2, .ref a0]) (by decide +kernel) rfl rfl ?_
      obtain ⟨v2, e3, e⟩ := bd_inv e
      refine Go.callS (M2 := m_M_tens) (as := [.int ((5 : Int32) * ((x1 - (1 : Int32)) - x4))]) (rest := [.long y2, .ref a0]) (v := some (.long v2)) (h1 := h) (x_M_tens hf hI  e3) ws_M_308 (by decide +kernel) rfl rfl ⟨⟨Nat.le_of_ble_eq_true rfl, Nat.le_of_ble_eq_true rfl⟩, ⟨Nat.le_of_ble_eq_true rfl, Nat.le_of_ble_eq_true rfl⟩⟩ (Nat.le_of_ble_eq_true rfl) ?_
      show Go l D ad aC (rmk m_M_runScript) _ m_M_runScript 75 [some (.ref a0), some (.int x1), some (.long y2), none, some (.int x4)] [.long v2, .long y2, .ref a0] h 0 0
      obtain ⟨g4, e⟩ := gd_inv e
      refine Go.ldivn g4 (by decide +kernel) ?_
      refine Go.ldc2 lo_M_312 (by decide +kernel) ?_
      obtain ⟨g5, e⟩ := gd_inv e
      refine Go.lremn g5 (by decide +kernel) ?_
      refine Go.run (pc' := 81) [.l2i] (ls' := [some (.ref a0), some (.int x1), some (.long y2), none, some (.int x4)]) (st' := [.int (((y2 / v2) - (y2 / v2) / (100000 : Int64) * (100000 : Int64)).toInt32), .ref a0]) (by decide +kernel) rfl rfl ?_
      obtain ⟨v6, e7, e⟩ := bd_inv e
      refine Go.callV (M2 := m_M_command) (a := a0) (as := [.int (((y2 / v2) - (y2 / v2) / (100000 : Int64) * (100000 : Int64)).toInt32)]) (rest := []) (v := some (.int v6.1)) (h1 := v6.2) (x_M_command hf hI k0 e7) wv_M_314 k0 kc_8 (by decide +kernel) rfl rfl ⟨⟨Nat.le_of_ble_eq_true rfl, Nat.le_of_ble_eq_true rfl⟩, ⟨Nat.le_of_ble_eq_true rfl, Nat.le_of_ble_eq_true rfl⟩⟩ (Nat.le_of_ble_eq_true rfl) ?_
      show Go l D ad aC (rmk m_M_runScript) _ m_M_runScript 84 [some (.ref a0), some (.int x1), some (.long y2), none, some (.int x4)] [.int v6.1] v6.2 0 0
      refine Go.if_ne (off := 6) (tgt := 90) (by decide +kernel) (by decide) (fun c8 => ?_) (fun c8 => ?_)
      · replace e := ite_f c8 e
        refine Go.run (pc' := 93) [.iinc 4 (1)] (ls' := [some (.ref a0), some (.int x1), some (.long y2), none, some (.int (x4 + (1 : Int32)))]) (st' := []) (by decide +kernel) rfl rfl ?_
        refine Go.goto (off := -37) (tgt := 56) (by decide +kernel) (by decide) ?_
        exact ih k0 e
      · replace e := ite_t c8 e
        refine Go.run (pc' := 89) [.iload 4] (ls' := [some (.ref a0), some (.int x1), some (.long y2), none, some (.int x4)]) (st' := [.int x4]) (by decide +kernel) rfl rfl ?_
        obtain rfl := Option.some.inj e
        exact Go.iret rfl (by decide) (by decide) (by decide +kernel)
def f_M_runScript_34  (a0 : Nat) (x1 : Int32) (y2 : Int64) (b0 : Nat) (s1 : Int32) (h : HP) : Option (Int32 × HP) :=
  (f_M_refused h b0 s1).bind fun v1 =>
  if v1.1 = 0 then
    (f_M_copy v1.2 (fld a0 1) (fld a0 2)).bind fun v4 =>
    f_M_runScript_56 4096 a0 x1 y2 (0 : Int32) v4
  else
    some ((0 : Int32), v1.2)
set_option maxHeartbeats 1000000 in
theorem x_M_runScript_34 {l : Launch} {D : va_G} {ad : Nat → Nat} {aC : Nat → ClassId} (hf : l.flags = flags0) (hI : Inj ad) {a0 : Nat} {x1 : Int32} {y2 : Int64} {b0 : Nat} {s1 : Int32} {h : HP} {r : Int32 × HP} (k0 : knd a0 = 8) (kb0 : knd b0 = 8) (e : f_M_runScript_34 a0 x1 y2 b0 s1 h = some r) : Go l D ad aC (rmk m_M_runScript) (QM D ad aC m_M_runScript (.inl (some (.int r.1))) r.2) m_M_runScript 34 [some (.ref a0), some (.int x1), some (.long y2), none, none] [.int s1, .ref b0] h 0 0 := by
  unfold f_M_runScript_34 at e
  obtain ⟨v1, e2, e⟩ := bd_inv e
  refine Go.callV (M2 := m_M_refused) (a := b0) (as := [.int s1]) (rest := []) (v := some (.int v1.1)) (h1 := v1.2) (x_M_refused hf hI kb0 e2) wv_M_142 kb0 kc_8 (by decide +kernel) rfl rfl ⟨⟨Nat.le_of_ble_eq_true rfl, Nat.le_of_ble_eq_true rfl⟩, ⟨Nat.le_of_ble_eq_true rfl, Nat.le_of_ble_eq_true rfl⟩⟩ (Nat.le_of_ble_eq_true rfl) ?_
  show Go l D ad aC (rmk m_M_runScript) _ m_M_runScript 37 [some (.ref a0), some (.int x1), some (.long y2), none, none] [.int v1.1] v1.2 0 0
  refine Go.if_eq (off := 5) (tgt := 42) (by decide +kernel) (by decide) (fun c3 => ?_) (fun c3 => ?_)
  · replace e := ite_t c3 e
    refine Go.run (pc' := 43) [.aload_n 0] (ls' := [some (.ref a0), some (.int x1), some (.long y2), none, none]) (st' := [.ref a0]) (by decide +kernel) rfl rfl ?_
    refine Go.getR fo_M_7 k0 (by decide +kernel) ?_
    refine Go.run (pc' := 47) [.aload_n 0] (ls' := [some (.ref a0), some (.int x1), some (.long y2), none, none]) (st' := [.ref a0, .ref (fld a0 1)]) (by decide +kernel) rfl rfl ?_
    refine Go.getR fo_M_13 k0 (by decide +kernel) ?_
    obtain ⟨v4, e5, e⟩ := bd_inv e
    refine Go.callS (M2 := m_M_copy) (as := [.ref (fld a0 1), .ref (fld a0 2)]) (rest := []) (v := none) (h1 := v4) (x_M_copy hf hI (kf_8_j 1 k0 (by decide) (by decide)) (al_8_j 1 k0 (by decide) (by decide) rfl) (kf_8_j 2 k0 (by decide) (by decide)) (al_8_j 2 k0 (by decide) (by decide) rfl) e5) ws_M_227 (by decide +kernel) rfl rfl ⟨⟨Nat.le_of_ble_eq_true rfl, Nat.le_of_ble_eq_true rfl⟩, ⟨Nat.le_of_ble_eq_true rfl, Nat.le_of_ble_eq_true rfl⟩⟩ (Nat.le_of_ble_eq_true rfl) ?_
    show Go l D ad aC (rmk m_M_runScript) _ m_M_runScript 53 [some (.ref a0), some (.int x1), some (.long y2), none, none] [] v4 0 0
    refine Go.run (pc' := 56) [.iconst 0, .istore 4] (ls' := [some (.ref a0), some (.int x1), some (.long y2), none, some (.int (0 : Int32))]) (st' := []) (by decide +kernel) rfl rfl ?_
    exact x_M_runScript_56 hf hI 4096 k0 e
  · replace e := ite_f c3 e
    refine Go.run (pc' := 41) [.iconst 0] (ls' := [some (.ref a0), some (.int x1), some (.long y2), none, none]) (st' := [.int (0 : Int32)]) (by decide +kernel) rfl rfl ?_
    obtain rfl := Option.some.inj e
    exact Go.iret rfl (by decide) (by decide) (by decide +kernel)
def f_M_runScript_33  (a0 : Nat) (x1 : Int32) (y2 : Int64) (b0 : Nat) (h : HP) : Option (Int32 × HP) :=
  f_M_runScript_34 a0 x1 y2 b0 (1 : Int32) h
set_option maxHeartbeats 1000000 in
theorem x_M_runScript_33 {l : Launch} {D : va_G} {ad : Nat → Nat} {aC : Nat → ClassId} (hf : l.flags = flags0) (hI : Inj ad) {a0 : Nat} {x1 : Int32} {y2 : Int64} {b0 : Nat} {h : HP} {r : Int32 × HP} (k0 : knd a0 = 8) (kb0 : knd b0 = 8) (e : f_M_runScript_33 a0 x1 y2 b0 h = some r) : Go l D ad aC (rmk m_M_runScript) (QM D ad aC m_M_runScript (.inl (some (.int r.1))) r.2) m_M_runScript 33 [some (.ref a0), some (.int x1), some (.long y2), none, none] [.ref b0] h 0 0 := by
  unfold f_M_runScript_33 at e
  refine Go.run (pc' := 34) [.iconst 1] (ls' := [some (.ref a0), some (.int x1), some (.long y2), none, none]) (st' := [.int (1 : Int32), .ref b0]) (by decide +kernel) rfl rfl ?_
  exact x_M_runScript_34 hf hI k0 kb0 e
def f_M_runScript (h : HP) (a0 : Nat) (x1 : Int32) (y2 : Int64) : Option (Int32 × HP) :=
  (f_M_in h x1.toInt64 (1 : Int64) (3 : Int64)).bind fun v1 =>
  if v1 = 0 then
    f_M_runScript_33 a0 x1 y2 a0 h
  else
    (f_M_tens h ((5 : Int32) * x1)).bind fun v4 =>
    (f_M_in h y2 (0 : Int64) (v4 - (1 : Int64))).bind fun v6 =>
    if v6 = 0 then
      f_M_runScript_33 a0 x1 y2 a0 h
    else
      f_M_runScript_34 a0 x1 y2 a0 (0 : Int32) h
set_option maxHeartbeats 1000000 in
theorem x_M_runScript {l : Launch} {D : va_G} {ad : Nat → Nat} {aC : Nat → ClassId} (hf : l.flags = flags0) (hI : Inj ad) {h : HP} {a0 : Nat} {x1 : Int32} {y2 : Int64} {r : Int32 × HP} (k0 : knd a0 = 8) (e : f_M_runScript h a0 x1 y2 = some r) : CT l D ad aC m_M_runScript [.ref a0, .int x1, .long y2] h (.inl (some (.int r.1))) r.2 := by
  refine CT.ofGo (by decide +kernel) rfl (Nat.le_of_ble_eq_true rfl) ?_
  unfold f_M_runScript at e
  show Go l D ad aC (rmk m_M_runScript) _ m_M_runScript 0 [some (.ref a0), some (.int x1), some (.long y2), none, none] [] h 0 0
  refine Go.run (pc' := 4) [.aload_n 0, .iload_n 1, .i2l, .lconst 1] (ls' := [some (.ref a0), some (.int x1), some (.long y2), none, none]) (st' := [.long (1 : Int64), .long x1.toInt64, .ref a0]) (by decide +kernel) rfl rfl ?_
  refine Go.ldc2 lo_M_67 (by decide +kernel) ?_
  obtain ⟨v1, e2, e⟩ := bd_inv e
  refine Go.callS (M2 := m_M_in) (as := [.long x1.toInt64, .long (1 : Int64), .long (3 : Int64)]) (rest := [.ref a0]) (v := some (.int v1)) (h1 := h) (x_M_in hf hI  e2) ws_M_51 (by decide +kernel) rfl rfl ⟨⟨Nat.le_of_ble_eq_true rfl, Nat.le_of_ble_eq_true rfl⟩, ⟨Nat.le_of_ble_eq_true rfl, Nat.le_of_ble_eq_true rfl⟩⟩ (Nat.le_of_ble_eq_true rfl) ?_
  show Go l D ad aC (rmk m_M_runScript) _ m_M_runScript 10 [some (.ref a0), some (.int x1), some (.long y2), none, none] [.int v1, .ref a0] h 0 0
  refine Go.if_eq (off := 23) (tgt := 33) (by decide +kernel) (by decide) (fun c3 => ?_) (fun c3 => ?_)
  · replace e := ite_t c3 e
    exact x_M_runScript_33 hf hI k0 k0 e
  · replace e := ite_f c3 e
    refine Go.run (pc' := 18) [.lload_n 2, .lconst 0, .iconst 5, .iload_n 1, .imul] (ls' := [some (.ref a0), some (.int x1), some (.long y2), none, none]) (st' := [.int ((5 : Int32) * x1), .long (0 : Int64), .long y2, .ref a0]) (by decide +kernel) rfl rfl ?_
    obtain ⟨v4, e5, e⟩ := bd_inv e
    refine Go.callS (M2 := m_M_tens) (as := [.int ((5 : Int32) * x1)]) (rest := [.long (0 : Int64), .long y2, .ref a0]) (v := some (.long v4)) (h1 := h) (x_M_tens hf hI  e5) ws_M_308 (by decide +kernel) rfl rfl ⟨⟨Nat.le_of_ble_eq_true rfl, Nat.le_of_ble_eq_true rfl⟩, ⟨Nat.le_of_ble_eq_true rfl, Nat.le_of_ble_eq_true rfl⟩⟩ (Nat.le_of_ble_eq_true rfl) ?_
    show Go l D ad aC (rmk m_M_runScript) _ m_M_runScript 21 [some (.ref a0), some (.int x1), some (.long y2), none, none] [.long v4, .long (0 : Int64), .long y2, .ref a0] h 0 0
    refine Go.run (pc' := 23) [.lconst 1, .lsub] (ls' := [some (.ref a0), some (.int x1), some (.long y2), none, none]) (st' := [.long (v4 - (1 : Int64)), .long (0 : Int64), .long y2, .ref a0]) (by decide +kernel) rfl rfl ?_
    obtain ⟨v6, e7, e⟩ := bd_inv e
    refine Go.callS (M2 := m_M_in) (as := [.long y2, .long (0 : Int64), .long (v4 - (1 : Int64))]) (rest := [.ref a0]) (v := some (.int v6)) (h1 := h) (x_M_in hf hI  e7) ws_M_51 (by decide +kernel) rfl rfl ⟨⟨Nat.le_of_ble_eq_true rfl, Nat.le_of_ble_eq_true rfl⟩, ⟨Nat.le_of_ble_eq_true rfl, Nat.le_of_ble_eq_true rfl⟩⟩ (Nat.le_of_ble_eq_true rfl) ?_
    show Go l D ad aC (rmk m_M_runScript) _ m_M_runScript 26 [some (.ref a0), some (.int x1), some (.long y2), none, none] [.int v6, .ref a0] h 0 0
    refine Go.if_eq (off := 7) (tgt := 33) (by decide +kernel) (by decide) (fun c8 => ?_) (fun c8 => ?_)
    · replace e := ite_t c8 e
      exact x_M_runScript_33 hf hI k0 k0 e
    · replace e := ite_f c8 e
      refine Go.run (pc' := 30) [.iconst 0] (ls' := [some (.ref a0), some (.int x1), some (.long y2), none, none]) (st' := [.int (0 : Int32), .ref a0]) (by decide +kernel) rfl rfl ?_
      refine Go.goto (off := 4) (tgt := 34) (by decide +kernel) (by decide) ?_
      exact x_M_runScript_34 hf hI k0 k0 e
def f_M_stir_113  (s0 : Int32) (h : HP) : Option (HP) :=
  some h
set_option maxHeartbeats 1000000 in
theorem x_M_stir_113 {l : Launch} {D : va_G} {ad : Nat → Nat} {aC : Nat → ClassId} (hf : l.flags = flags0) (hI : Inj ad) {s0 : Int32} {h : HP} {r : HP}  (e : f_M_stir_113 s0 h = some r) : Go l D ad aC (rmk m_M_stir) (QM D ad aC m_M_stir (.inl none) r) m_M_stir 113 [none, none, none, none] [.int s0] h 0 0 := by
  unfold f_M_stir_113 at e
  refine Go.run (pc' := 114) [.istore_n 3] (ls' := [none, none, none, some (.int s0)]) (st' := []) (by decide +kernel) rfl rfl ?_
  refine Go.goto (off := 164) (tgt := 278) (by decide +kernel) (by decide) ?_
  obtain rfl := Option.some.inj e
  exact Go.vret rfl (by decide) (by decide) (by decide +kernel)
def f_M_stir_112   (h : HP) : Option (HP) :=
  f_M_stir_113 (0 : Int32) h
set_option maxHeartbeats 1000000 in
theorem x_M_stir_112 {l : Launch} {D : va_G} {ad : Nat → Nat} {aC : Nat → ClassId} (hf : l.flags = flags0) (hI : Inj ad)  {h : HP} {r : HP}  (e : f_M_stir_112 h = some r) : Go l D ad aC (rmk m_M_stir) (QM D ad aC m_M_stir (.inl none) r) m_M_stir 112 [none, none, none, none] [] h 0 0 := by
  unfold f_M_stir_112 at e
  refine Go.run (pc' := 113) [.iconst 0] (ls' := [none, none, none, none]) (st' := [.int (0 : Int32)]) (by decide +kernel) rfl rfl ?_
  exact x_M_stir_113 hf hI  e
def f_M_stir_189  (s0 : Int32) (h : HP) : Option (HP) :=
  some h
set_option maxHeartbeats 1000000 in
theorem x_M_stir_189 {l : Launch} {D : va_G} {ad : Nat → Nat} {aC : Nat → ClassId} (hf : l.flags = flags0) (hI : Inj ad) {s0 : Int32} {h : HP} {r : HP}  (e : f_M_stir_189 s0 h = some r) : Go l D ad aC (rmk m_M_stir) (QM D ad aC m_M_stir (.inl none) r) m_M_stir 189 [none, none, none, none] [.int s0] h 0 0 := by
  unfold f_M_stir_189 at e
  refine Go.run (pc' := 190) [.istore_n 3] (ls' := [none, none, none, some (.int s0)]) (st' := []) (by decide +kernel) rfl rfl ?_
  refine Go.goto (off := 88) (tgt := 278) (by decide +kernel) (by decide) ?_
  obtain rfl := Option.some.inj e
  exact Go.vret rfl (by decide) (by decide) (by decide +kernel)
def f_M_stir_188   (h : HP) : Option (HP) :=
  f_M_stir_189 (0 : Int32) h
set_option maxHeartbeats 1000000 in
theorem x_M_stir_188 {l : Launch} {D : va_G} {ad : Nat → Nat} {aC : Nat → ClassId} (hf : l.flags = flags0) (hI : Inj ad)  {h : HP} {r : HP}  (e : f_M_stir_188 h = some r) : Go l D ad aC (rmk m_M_stir) (QM D ad aC m_M_stir (.inl none) r) m_M_stir 188 [none, none, none, none] [] h 0 0 := by
  unfold f_M_stir_188 at e
  refine Go.run (pc' := 189) [.iconst 0] (ls' := [none, none, none, none]) (st' := [.int (0 : Int32)]) (by decide +kernel) rfl rfl ?_
  exact x_M_stir_189 hf hI  e
def f_M_stir (h : HP) (a0 : Nat) (x1 : Int32) : Option (HP) :=
  if (x1 - x1 / (16 : Int32) * (16 : Int32)) = 0 then
    if ib (184 : Int32) 196 = true then
    if (4 : Int32) ≤ (h (fld a0 2) (184 : Int32).toNatClampNeg) then
      f_M_stir_112 h
    else
      (f_M_addWall h (fld a0 2) ((4 : Int32) + ((x1 / (16 : Int32)) - (x1 / (16 : Int32)) / (27 : Int32) * (27 : Int32)))).bind fun v4 =>
      if v4.1 < 0 then
        f_M_stir_112 v4.2
      else
        f_M_stir_113 (1 : Int32) v4.2
    else none
  else
    if (x1 - x1 / (16 : Int32) * (16 : Int32)) = 1 then
      (f_M_runOutlet h a0 ((x1 / (16 : Int32)) - (x1 / (16 : Int32)) / (4 : Int32) * (4 : Int32)) (((x1 / (16 : Int32)) / (4 : Int32)) - ((x1 / (16 : Int32)) / (4 : Int32)) / (30 : Int32) * (30 : Int32)) (((x1 / (16 : Int32)) / (128 : Int32)) - ((x1 / (16 : Int32)) / (128 : Int32)) / (5 : Int32) * (5 : Int32))).bind fun v8 =>
      some v8.2
    else
      if (x1 - x1 / (16 : Int32) * (16 : Int32)) = 2 then
        (f_M_runOutlet h a0 ((x1 / (16 : Int32)) - (x1 / (16 : Int32)) / (4 : Int32) * (4 : Int32)) (((x1 / (16 : Int32)) / (4 : Int32)) - ((x1 / (16 : Int32)) / (4 : Int32)) / (30 : Int32) * (30 : Int32)) (((x1 / (16 : Int32)) / (128 : Int32)) - ((x1 / (16 : Int32)) / (128 : Int32)) / (5 : Int32) * (5 : Int32))).bind fun v11 =>
        some v11.2
      else
        if (x1 - x1 / (16 : Int32) * (16 : Int32)) = 3 then
          if ib (185 : Int32) 196 = true then
          if (10 : Int32) ≤ (h (fld a0 2) (185 : Int32).toNatClampNeg) then
            f_M_stir_188 h
          else
            (f_M_addDealer h (fld a0 2) ((x1 / (16 : Int32)) - (x1 / (16 : Int32)) / (6 : Int32) * (6 : Int32)) ((1 : Int32) + (((x1 / (16 : Int32)) / (8 : Int32)) - ((x1 / (16 : Int32)) / (8 : Int32)) / (9 : Int32) * (9 : Int32))) (((x1 / (16 : Int32)) / (128 : Int32)) - ((x1 / (16 : Int32)) / (128 : Int32)) / (4 : Int32) * (4 : Int32))).bind fun v16 =>
            if v16.1 < 0 then
              f_M_stir_188 v16.2
            else
              f_M_stir_189 (1 : Int32) v16.2
          else none
        else
          if (x1 - x1 / (16 : Int32) * (16 : Int32)) = 4 then
            if ib (185 : Int32) 196 = true then
            if (10 : Int32) ≤ (h (fld a0 2) (185 : Int32).toNatClampNeg) then
              f_M_stir_188 h
            else
              (f_M_addDealer h (fld a0 2) ((x1 / (16 : Int32)) - (x1 / (16 : Int32)) / (6 : Int32) * (6 : Int32)) ((1 : Int32) + (((x1 / (16 : Int32)) / (8 : Int32)) - ((x1 / (16 : Int32)) / (8 : Int32)) / (9 : Int32) * (9 : Int32))) (((x1 / (16 : Int32)) / (128 : Int32)) - ((x1 / (16 : Int32)) / (128 : Int32)) / (4 : Int32) * (4 : Int32))).bind fun v22 =>
              if v22.1 < 0 then
                f_M_stir_188 v22.2
              else
                f_M_stir_189 (1 : Int32) v22.2
            else none
          else
            if (x1 - x1 / (16 : Int32) * (16 : Int32)) = 5 then
              if ib (185 : Int32) 196 = true then
              if (10 : Int32) ≤ (h (fld a0 2) (185 : Int32).toNatClampNeg) then
                f_M_stir_188 h
              else
                (f_M_addDealer h (fld a0 2) ((x1 / (16 : Int32)) - (x1 / (16 : Int32)) / (6 : Int32) * (6 : Int32)) ((1 : Int32) + (((x1 / (16 : Int32)) / (8 : Int32)) - ((x1 / (16 : Int32)) / (8 : Int32)) / (9 : Int32) * (9 : Int32))) (((x1 / (16 : Int32)) / (128 : Int32)) - ((x1 / (16 : Int32)) / (128 : Int32)) / (4 : Int32) * (4 : Int32))).bind fun v28 =>
                if v28.1 < 0 then
                  f_M_stir_188 v28.2
                else
                  f_M_stir_189 (1 : Int32) v28.2
              else none
            else
              if (x1 - x1 / (16 : Int32) * (16 : Int32)) = 6 then
                (f_M_runPlace h a0 ((x1 / (16 : Int32)) - (x1 / (16 : Int32)) / (10 : Int32) * (10 : Int32)) (((x1 / (16 : Int32)) / (16 : Int32)) - ((x1 / (16 : Int32)) / (16 : Int32)) / (4 : Int32) * (4 : Int32)) (((x1 / (16 : Int32)) / (64 : Int32)) - ((x1 / (16 : Int32)) / (64 : Int32)) / (30 : Int32) * (30 : Int32))).bind fun v32 =>
                some v32.2
              else
                if (x1 - x1 / (16 : Int32) * (16 : Int32)) = 7 then
                  (f_M_runPlace h a0 ((x1 / (16 : Int32)) - (x1 / (16 : Int32)) / (10 : Int32) * (10 : Int32)) (((x1 / (16 : Int32)) / (16 : Int32)) - ((x1 / (16 : Int32)) / (16 : Int32)) / (4 : Int32) * (4 : Int32)) (((x1 / (16 : Int32)) / (64 : Int32)) - ((x1 / (16 : Int32)) / (64 : Int32)) / (30 : Int32) * (30 : Int32))).bind fun v35 =>
                  some v35.2
                else
                  if (x1 - x1 / (16 : Int32) * (16 : Int32)) = 8 then
                    (f_M_runPlace h a0 ((x1 / (16 : Int32)) - (x1 / (16 : Int32)) / (10 : Int32) * (10 : Int32)) (((x1 / (16 : Int32)) / (16 : Int32)) - ((x1 / (16 : Int32)) / (16 : Int32)) / (4 : Int32) * (4 : Int32)) (((x1 / (16 : Int32)) / (64 : Int32)) - ((x1 / (16 : Int32)) / (64 : Int32)) / (30 : Int32) * (30 : Int32))).bind fun v38 =>
                    some v38.2
                  else
                    if (x1 - x1 / (16 : Int32) * (16 : Int32)) = 9 then
                      (f_M_runPlace h a0 ((x1 / (16 : Int32)) - (x1 / (16 : Int32)) / (10 : Int32) * (10 : Int32)) (((x1 / (16 : Int32)) / (16 : Int32)) - ((x1 / (16 : Int32)) / (16 : Int32)) / (4 : Int32) * (4 : Int32)) (((x1 / (16 : Int32)) / (64 : Int32)) - ((x1 / (16 : Int32)) / (64 : Int32)) / (30 : Int32) * (30 : Int32))).bind fun v41 =>
                      some v41.2
                    else
                      if (x1 - x1 / (16 : Int32) * (16 : Int32)) = 10 then
                        (f_M_runLeave h a0 ((x1 / (16 : Int32)) - (x1 / (16 : Int32)) / (10 : Int32) * (10 : Int32))).bind fun v44 =>
                        some v44.2
                      else
                        if (x1 - x1 / (16 : Int32) * (16 : Int32)) = 11 then
                          (f_M_runSwap h a0 ((x1 / (16 : Int32)) - (x1 / (16 : Int32)) / (10 : Int32) * (10 : Int32)) (((x1 / (16 : Int32)) / (16 : Int32)) - ((x1 / (16 : Int32)) / (16 : Int32)) / (10 : Int32) * (10 : Int32))).bind fun v47 =>
                          some v47.2
                        else
                          if (x1 - x1 / (16 : Int32) * (16 : Int32)) = 12 then
                            (f_M_runSwap h a0 ((x1 / (16 : Int32)) - (x1 / (16 : Int32)) / (10 : Int32) * (10 : Int32)) (((x1 / (16 : Int32)) / (16 : Int32)) - ((x1 / (16 : Int32)) / (16 : Int32)) / (10 : Int32) * (10 : Int32))).bind fun v50 =>
                            some v50.2
                          else
                            if (x1 - x1 / (16 : Int32) * (16 : Int32)) = 13 then
                              (f_M_runSet h a0 ((x1 / (16 : Int32)) - (x1 / (16 : Int32)) / (6 : Int32) * (6 : Int32)) (((x1 / (16 : Int32)) / (8 : Int32)) - ((x1 / (16 : Int32)) / (8 : Int32)) / (12 : Int32) * (12 : Int32))).bind fun v53 =>
                              some v53.2
                            else
                              (f_M_runDays h a0 ((1 : Int32) + ((x1 / (16 : Int32)) - (x1 / (16 : Int32)) / (5 : Int32) * (5 : Int32)))).bind fun v55 =>
                              some v55.2
set_option maxHeartbeats 1000000 in
theorem x_M_stir {l : Launch} {D : va_G} {ad : Nat → Nat} {aC : Nat → ClassId} (hf : l.flags = flags0) (hI : Inj ad) {h : HP} {a0 : Nat} {x1 : Int32} {r : HP} (k0 : knd a0 = 8) (e : f_M_stir h a0 x1 = some r) : CT l D ad aC m_M_stir [.ref a0, .int x1] h (.inl none) r := by
  refine CT.ofGo (by decide +kernel) rfl (Nat.le_of_ble_eq_true rfl) ?_
  unfold f_M_stir at e
  show Go l D ad aC (rmk m_M_stir) _ m_M_stir 0 [some (.ref a0), some (.int x1), none, none] [] h 0 0
  refine Go.run (pc' := 9) [.iload_n 1, .bipush (16), .idiv, .istore_n 2, .iload_n 1, .bipush (16), .irem] (ls' := [some (.ref a0), some (.int x1), some (.int (x1 / (16 : Int32))), none]) (st' := [.int (x1 - x1 / (16 : Int32) * (16 : Int32))]) (by decide +kernel) rfl rfl ?_
  rcases Decidable.em ((x1 - x1 / (16 : Int32) * (16 : Int32)) = 0) with c1 | c1
  · replace e := ite_t c1 e
    refine Go.tsIn (dflt := 259) (lo := 0) (hi := 13) (offs := #[71, 108, 108, 132, 132, 132, 184, 184, 184, 184, 209, 221, 221, 240]) (len := 71) (off := 71) (tgt := 80) 0 (by decide +kernel) (by rw [c1]; decide) (by decide) (by decide) (by decide) (by decide) ?_
    refine Go.run (pc' := 81) [.aload_n 0] (ls' := [some (.ref a0), some (.int x1), some (.int (x1 / (16 : Int32))), none]) (st' := [.ref a0]) (by decide +kernel) rfl rfl ?_
    refine Go.getR fo_M_13 k0 (by decide +kernel) ?_
    refine Go.run (pc' := 87) [.sipush (184)] (ls' := [some (.ref a0), some (.int x1), some (.int (x1 / (16 : Int32))), none]) (st' := [.int (184 : Int32), .ref (fld a0 2)]) (by decide +kernel) rfl rfl ?_
    obtain ⟨g2, e⟩ := gd_inv e
    refine Go.iald (kf_8_j 2 k0 (by decide) (by decide)) (al_8_j 2 k0 (by decide) (by decide) rfl) g2 (by decide +kernel) ?_
    refine Go.run (pc' := 89) [.iconst 4] (ls' := [some (.ref a0), some (.int x1), some (.int (x1 / (16 : Int32))), none]) (st' := [.int (4 : Int32), .int (h (fld a0 2) (184 : Int32).toNatClampNeg)]) (by decide +kernel) rfl rfl ?_
    refine Go.ic_ge (off := 23) (tgt := 112) (by decide +kernel) (by decide) (fun c3 => ?_) (fun c3 => ?_)
    · replace e := ite_t c3 e
      refine Go.wk' (wkn (wkn (wkn (wks wk0)))) ?_
      exact x_M_stir_112 hf hI  e
    · replace e := ite_f c3 e
      refine Go.run (pc' := 93) [.aload_n 0] (ls' := [some (.ref a0), some (.int x1), some (.int (x1 / (16 : Int32))), none]) (st' := [.ref a0]) (by decide +kernel) rfl rfl ?_
      refine Go.getR fo_M_13 k0 (by decide +kernel) ?_
      refine Go.run (pc' := 102) [.iconst 4, .iload_n 2, .bipush (27), .irem, .iadd] (ls' := [some (.ref a0), some (.int x1), some (.int (x1 / (16 : Int32))), none]) (st' := [.int ((4 : Int32) + ((x1 / (16 : Int32)) - (x1 / (16 : Int32)) / (27 : Int32) * (27 : Int32))), .ref (fld a0 2)]) (by decide +kernel) rfl rfl ?_
      obtain ⟨v4, e5, e⟩ := bd_inv e
      refine Go.callS (M2 := m_M_addWall) (as := [.ref (fld a0 2), .int ((4 : Int32) + ((x1 / (16 : Int32)) - (x1 / (16 : Int32)) / (27 : Int32) * (27 : Int32)))]) (rest := []) (v := some (.int v4.1)) (h1 := v4.2) (x_M_addWall hf hI (kf_8_j 2 k0 (by decide) (by decide)) (al_8_j 2 k0 (by decide) (by decide) rfl) e5) ws_M_193 (by decide +kernel) rfl rfl ⟨⟨Nat.le_of_ble_eq_true rfl, Nat.le_of_ble_eq_true rfl⟩, ⟨Nat.le_of_ble_eq_true rfl, Nat.le_of_ble_eq_true rfl⟩⟩ (Nat.le_of_ble_eq_true rfl) ?_
      show Go l D ad aC (rmk m_M_stir) _ m_M_stir 105 [some (.ref a0), some (.int x1), some (.int (x1 / (16 : Int32))), none] [.int v4.1] v4.2 0 0
      refine Go.if_lt (off := 7) (tgt := 112) (by decide +kernel) (by decide) (fun c6 => ?_) (fun c6 => ?_)
      · replace e := ite_t c6 e
        refine Go.wk' (wkn (wkn (wkn (wks wk0)))) ?_
        exact x_M_stir_112 hf hI  e
      · replace e := ite_f c6 e
        refine Go.run (pc' := 109) [.iconst 1] (ls' := [some (.ref a0), some (.int x1), some (.int (x1 / (16 : Int32))), none]) (st' := [.int (1 : Int32)]) (by decide +kernel) rfl rfl ?_
        refine Go.goto (off := 4) (tgt := 113) (by decide +kernel) (by decide) ?_
        refine Go.wk' (wkn (wkn (wkn (wks wk0)))) ?_
        exact x_M_stir_113 hf hI  e
  replace e := ite_f c1 e
  rcases Decidable.em ((x1 - x1 / (16 : Int32) * (16 : Int32)) = 1) with c7 | c7
  · replace e := ite_t c7 e
    refine Go.tsIn (dflt := 259) (lo := 0) (hi := 13) (offs := #[71, 108, 108, 132, 132, 132, 184, 184, 184, 184, 209, 221, 221, 240]) (len := 71) (off := 108) (tgt := 117) 1 (by decide +kernel) (by rw [c7]; decide) (by decide) (by decide) (by decide) (by decide) ?_
    refine Go.run (pc' := 134) [.aload_n 0, .iload_n 2, .iconst 4, .irem, .iload_n 2, .iconst 4, .idiv, .bipush (30), .irem, .iload_n 2, .sipush (128), .idiv, .iconst 5, .irem] (ls' := [some (.ref a0), some (.int x1), some (.int (x1 / (16 : Int32))), none]) (st' := [.int (((x1 / (16 : Int32)) / (128 : Int32)) - ((x1 / (16 : Int32)) / (128 : Int32)) / (5 : Int32) * (5 : Int32)), .int (((x1 / (16 : Int32)) / (4 : Int32)) - ((x1 / (16 : Int32)) / (4 : Int32)) / (30 : Int32) * (30 : Int32)), .int ((x1 / (16 : Int32)) - (x1 / (16 : Int32)) / (4 : Int32) * (4 : Int32)), .ref a0]) (by decide +kernel) rfl rfl ?_
    obtain ⟨v8, e9, e⟩ := bd_inv e
    refine Go.callV (M2 := m_M_runOutlet) (a := a0) (as := [.int ((x1 / (16 : Int32)) - (x1 / (16 : Int32)) / (4 : Int32) * (4 : Int32)), .int (((x1 / (16 : Int32)) / (4 : Int32)) - ((x1 / (16 : Int32)) / (4 : Int32)) / (30 : Int32) * (30 : Int32)), .int (((x1 / (16 : Int32)) / (128 : Int32)) - ((x1 / (16 : Int32)) / (128 : Int32)) / (5 : Int32) * (5 : Int32))]) (rest := []) (v := some (.int v8.1)) (h1 := v8.2) (x_M_runOutlet hf hI k0 e9) wv_M_299 k0 kc_8 (by decide +kernel) rfl rfl ⟨⟨Nat.le_of_ble_eq_true rfl, Nat.le_of_ble_eq_true rfl⟩, ⟨Nat.le_of_ble_eq_true rfl, Nat.le_of_ble_eq_true rfl⟩⟩ (Nat.le_of_ble_eq_true rfl) ?_
    show Go l D ad aC (rmk m_M_stir) _ m_M_stir 137 [some (.ref a0), some (.int x1), some (.int (x1 / (16 : Int32))), none] [.int v8.1] v8.2 0 0
    refine Go.run (pc' := 138) [.istore_n 3] (ls' := [some (.ref a0), some (.int x1), some (.int (x1 / (16 : Int32))), some (.int v8.1)]) (st' := []) (by decide +kernel) rfl rfl ?_
    refine Go.goto (off := 140) (tgt := 278) (by decide +kernel) (by decide) ?_
    obtain rfl := Option.some.inj e
    exact Go.vret rfl (by decide) (by decide) (by decide +kernel)
  replace e := ite_f c7 e
  rcases Decidable.em ((x1 - x1 / (16 : Int32) * (16 : Int32)) = 2) with c10 | c10
  · replace e := ite_t c10 e
    refine Go.tsIn (dflt := 259) (lo := 0) (hi := 13) (offs := #[71, 108, 108, 132, 132, 132, 184, 184, 184, 184, 209, 221, 221, 240]) (len := 71) (off := 108) (tgt := 117) 2 (by decide +kernel) (by rw [c10]; decide) (by decide) (by decide) (by decide) (by decide) ?_
    refine Go.run (pc' := 134) [.aload_n 0, .iload_n 2, .iconst 4, .irem, .iload_n 2, .iconst 4, .idiv, .bipush (30), .irem, .iload_n 2, .sipush (128), .idiv, .iconst 5, .irem] (ls' := [some (.ref a0), some (.int x1), some (.int (x1 / (16 : Int32))), none]) (st' := [.int (((x1 / (16 : Int32)) / (128 : Int32)) - ((x1 / (16 : Int32)) / (128 : Int32)) / (5 : Int32) * (5 : Int32)), .int (((x1 / (16 : Int32)) / (4 : Int32)) - ((x1 / (16 : Int32)) / (4 : Int32)) / (30 : Int32) * (30 : Int32)), .int ((x1 / (16 : Int32)) - (x1 / (16 : Int32)) / (4 : Int32) * (4 : Int32)), .ref a0]) (by decide +kernel) rfl rfl ?_
    obtain ⟨v11, e12, e⟩ := bd_inv e
    refine Go.callV (M2 := m_M_runOutlet) (a := a0) (as := [.int ((x1 / (16 : Int32)) - (x1 / (16 : Int32)) / (4 : Int32) * (4 : Int32)), .int (((x1 / (16 : Int32)) / (4 : Int32)) - ((x1 / (16 : Int32)) / (4 : Int32)) / (30 : Int32) * (30 : Int32)), .int (((x1 / (16 : Int32)) / (128 : Int32)) - ((x1 / (16 : Int32)) / (128 : Int32)) / (5 : Int32) * (5 : Int32))]) (rest := []) (v := some (.int v11.1)) (h1 := v11.2) (x_M_runOutlet hf hI k0 e12) wv_M_299 k0 kc_8 (by decide +kernel) rfl rfl ⟨⟨Nat.le_of_ble_eq_true rfl, Nat.le_of_ble_eq_true rfl⟩, ⟨Nat.le_of_ble_eq_true rfl, Nat.le_of_ble_eq_true rfl⟩⟩ (Nat.le_of_ble_eq_true rfl) ?_
    show Go l D ad aC (rmk m_M_stir) _ m_M_stir 137 [some (.ref a0), some (.int x1), some (.int (x1 / (16 : Int32))), none] [.int v11.1] v11.2 0 0
    refine Go.run (pc' := 138) [.istore_n 3] (ls' := [some (.ref a0), some (.int x1), some (.int (x1 / (16 : Int32))), some (.int v11.1)]) (st' := []) (by decide +kernel) rfl rfl ?_
    refine Go.goto (off := 140) (tgt := 278) (by decide +kernel) (by decide) ?_
    obtain rfl := Option.some.inj e
    exact Go.vret rfl (by decide) (by decide) (by decide +kernel)
  replace e := ite_f c10 e
  rcases Decidable.em ((x1 - x1 / (16 : Int32) * (16 : Int32)) = 3) with c13 | c13
  · replace e := ite_t c13 e
    refine Go.tsIn (dflt := 259) (lo := 0) (hi := 13) (offs := #[71, 108, 108, 132, 132, 132, 184, 184, 184, 184, 209, 221, 221, 240]) (len := 71) (off := 132) (tgt := 141) 3 (by decide +kernel) (by rw [c13]; decide) (by decide) (by decide) (by decide) (by decide) ?_
    refine Go.run (pc' := 142) [.aload_n 0] (ls' := [some (.ref a0), some (.int x1), some (.int (x1 / (16 : Int32))), none]) (st' := [.ref a0]) (by decide +kernel) rfl rfl ?_
    refine Go.getR fo_M_13 k0 (by decide +kernel) ?_
    refine Go.run (pc' := 148) [.sipush (185)] (ls' := [some (.ref a0), some (.int x1), some (.int (x1 / (16 : Int32))), none]) (st' := [.int (185 : Int32), .ref (fld a0 2)]) (by decide +kernel) rfl rfl ?_
    obtain ⟨g14, e⟩ := gd_inv e
    refine Go.iald (kf_8_j 2 k0 (by decide) (by decide)) (al_8_j 2 k0 (by decide) (by decide) rfl) g14 (by decide +kernel) ?_
    refine Go.run (pc' := 151) [.bipush (10)] (ls' := [some (.ref a0), some (.int x1), some (.int (x1 / (16 : Int32))), none]) (st' := [.int (10 : Int32), .int (h (fld a0 2) (185 : Int32).toNatClampNeg)]) (by decide +kernel) rfl rfl ?_
    refine Go.ic_ge (off := 37) (tgt := 188) (by decide +kernel) (by decide) (fun c15 => ?_) (fun c15 => ?_)
    · replace e := ite_t c15 e
      refine Go.wk' (wkn (wkn (wkn (wks wk0)))) ?_
      exact x_M_stir_188 hf hI  e
    · replace e := ite_f c15 e
      refine Go.run (pc' := 155) [.aload_n 0] (ls' := [some (.ref a0), some (.int x1), some (.int (x1 / (16 : Int32))), none]) (st' := [.ref a0]) (by decide +kernel) rfl rfl ?_
      refine Go.getR fo_M_13 k0 (by decide +kernel) ?_
      refine Go.run (pc' := 178) [.iload_n 2, .bipush (6), .irem, .iconst 1, .iload_n 2, .bipush (8), .idiv, .bipush (9), .irem, .iadd, .iload_n 2, .sipush (128), .idiv, .iconst 4, .irem] (ls' := [some (.ref a0), some (.int x1), some (.int (x1 / (16 : Int32))), none]) (st' := [.int (((x1 / (16 : Int32)) / (128 : Int32)) - ((x1 / (16 : Int32)) / (128 : Int32)) / (4 : Int32) * (4 : Int32)), .int ((1 : Int32) + (((x1 / (16 : Int32)) / (8 : Int32)) - ((x1 / (16 : Int32)) / (8 : Int32)) / (9 : Int32) * (9 : Int32))), .int ((x1 / (16 : Int32)) - (x1 / (16 : Int32)) / (6 : Int32) * (6 : Int32)), .ref (fld a0 2)]) (by decide +kernel) rfl rfl ?_
      obtain ⟨v16, e17, e⟩ := bd_inv e
      refine Go.callS (M2 := m_M_addDealer) (as := [.ref (fld a0 2), .int ((x1 / (16 : Int32)) - (x1 / (16 : Int32)) / (6 : Int32) * (6 : Int32)), .int ((1 : Int32) + (((x1 / (16 : Int32)) / (8 : Int32)) - ((x1 / (16 : Int32)) / (8 : Int32)) / (9 : Int32) * (9 : Int32))), .int (((x1 / (16 : Int32)) / (128 : Int32)) - ((x1 / (16 : Int32)) / (128 : Int32)) / (4 : Int32) * (4 : Int32))]) (rest := []) (v := some (.int v16.1)) (h1 := v16.2) (x_M_addDealer hf hI (kf_8_j 2 k0 (by decide) (by decide)) (al_8_j 2 k0 (by decide) (by decide) rfl) e17) ws_M_181 (by decide +kernel) rfl rfl ⟨⟨Nat.le_of_ble_eq_true rfl, Nat.le_of_ble_eq_true rfl⟩, ⟨Nat.le_of_ble_eq_true rfl, Nat.le_of_ble_eq_true rfl⟩⟩ (Nat.le_of_ble_eq_true rfl) ?_
      show Go l D ad aC (rmk m_M_stir) _ m_M_stir 181 [some (.ref a0), some (.int x1), some (.int (x1 / (16 : Int32))), none] [.int v16.1] v16.2 0 0
      refine Go.if_lt (off := 7) (tgt := 188) (by decide +kernel) (by decide) (fun c18 => ?_) (fun c18 => ?_)
      · replace e := ite_t c18 e
        refine Go.wk' (wkn (wkn (wkn (wks wk0)))) ?_
        exact x_M_stir_188 hf hI  e
      · replace e := ite_f c18 e
        refine Go.run (pc' := 185) [.iconst 1] (ls' := [some (.ref a0), some (.int x1), some (.int (x1 / (16 : Int32))), none]) (st' := [.int (1 : Int32)]) (by decide +kernel) rfl rfl ?_
        refine Go.goto (off := 4) (tgt := 189) (by decide +kernel) (by decide) ?_
        refine Go.wk' (wkn (wkn (wkn (wks wk0)))) ?_
        exact x_M_stir_189 hf hI  e
  replace e := ite_f c13 e
  rcases Decidable.em ((x1 - x1 / (16 : Int32) * (16 : Int32)) = 4) with c19 | c19
  · replace e := ite_t c19 e
    refine Go.tsIn (dflt := 259) (lo := 0) (hi := 13) (offs := #[71, 108, 108, 132, 132, 132, 184, 184, 184, 184, 209, 221, 221, 240]) (len := 71) (off := 132) (tgt := 141) 4 (by decide +kernel) (by rw [c19]; decide) (by decide) (by decide) (by decide) (by decide) ?_
    refine Go.run (pc' := 142) [.aload_n 0] (ls' := [some (.ref a0), some (.int x1), some (.int (x1 / (16 : Int32))), none]) (st' := [.ref a0]) (by decide +kernel) rfl rfl ?_
    refine Go.getR fo_M_13 k0 (by decide +kernel) ?_
    refine Go.run (pc' := 148) [.sipush (185)] (ls' := [some (.ref a0), some (.int x1), some (.int (x1 / (16 : Int32))), none]) (st' := [.int (185 : Int32), .ref (fld a0 2)]) (by decide +kernel) rfl rfl ?_
    obtain ⟨g20, e⟩ := gd_inv e
    refine Go.iald (kf_8_j 2 k0 (by decide) (by decide)) (al_8_j 2 k0 (by decide) (by decide) rfl) g20 (by decide +kernel) ?_
    refine Go.run (pc' := 151) [.bipush (10)] (ls' := [some (.ref a0), some (.int x1), some (.int (x1 / (16 : Int32))), none]) (st' := [.int (10 : Int32), .int (h (fld a0 2) (185 : Int32).toNatClampNeg)]) (by decide +kernel) rfl rfl ?_
    refine Go.ic_ge (off := 37) (tgt := 188) (by decide +kernel) (by decide) (fun c21 => ?_) (fun c21 => ?_)
    · replace e := ite_t c21 e
      refine Go.wk' (wkn (wkn (wkn (wks wk0)))) ?_
      exact x_M_stir_188 hf hI  e
    · replace e := ite_f c21 e
      refine Go.run (pc' := 155) [.aload_n 0] (ls' := [some (.ref a0), some (.int x1), some (.int (x1 / (16 : Int32))), none]) (st' := [.ref a0]) (by decide +kernel) rfl rfl ?_
      refine Go.getR fo_M_13 k0 (by decide +kernel) ?_
      refine Go.run (pc' := 178) [.iload_n 2, .bipush (6), .irem, .iconst 1, .iload_n 2, .bipush (8), .idiv, .bipush (9), .irem, .iadd, .iload_n 2, .sipush (128), .idiv, .iconst 4, .irem] (ls' := [some (.ref a0), some (.int x1), some (.int (x1 / (16 : Int32))), none]) (st' := [.int (((x1 / (16 : Int32)) / (128 : Int32)) - ((x1 / (16 : Int32)) / (128 : Int32)) / (4 : Int32) * (4 : Int32)), .int ((1 : Int32) + (((x1 / (16 : Int32)) / (8 : Int32)) - ((x1 / (16 : Int32)) / (8 : Int32)) / (9 : Int32) * (9 : Int32))), .int ((x1 / (16 : Int32)) - (x1 / (16 : Int32)) / (6 : Int32) * (6 : Int32)), .ref (fld a0 2)]) (by decide +kernel) rfl rfl ?_
      obtain ⟨v22, e23, e⟩ := bd_inv e
      refine Go.callS (M2 := m_M_addDealer) (as := [.ref (fld a0 2), .int ((x1 / (16 : Int32)) - (x1 / (16 : Int32)) / (6 : Int32) * (6 : Int32)), .int ((1 : Int32) + (((x1 / (16 : Int32)) / (8 : Int32)) - ((x1 / (16 : Int32)) / (8 : Int32)) / (9 : Int32) * (9 : Int32))), .int (((x1 / (16 : Int32)) / (128 : Int32)) - ((x1 / (16 : Int32)) / (128 : Int32)) / (4 : Int32) * (4 : Int32))]) (rest := []) (v := some (.int v22.1)) (h1 := v22.2) (x_M_addDealer hf hI (kf_8_j 2 k0 (by decide) (by decide)) (al_8_j 2 k0 (by decide) (by decide) rfl) e23) ws_M_181 (by decide +kernel) rfl rfl ⟨⟨Nat.le_of_ble_eq_true rfl, Nat.le_of_ble_eq_true rfl⟩, ⟨Nat.le_of_ble_eq_true rfl, Nat.le_of_ble_eq_true rfl⟩⟩ (Nat.le_of_ble_eq_true rfl) ?_
      show Go l D ad aC (rmk m_M_stir) _ m_M_stir 181 [some (.ref a0), some (.int x1), some (.int (x1 / (16 : Int32))), none] [.int v22.1] v22.2 0 0
      refine Go.if_lt (off := 7) (tgt := 188) (by decide +kernel) (by decide) (fun c24 => ?_) (fun c24 => ?_)
      · replace e := ite_t c24 e
        refine Go.wk' (wkn (wkn (wkn (wks wk0)))) ?_
        exact x_M_stir_188 hf hI  e
      · replace e := ite_f c24 e
        refine Go.run (pc' := 185) [.iconst 1] (ls' := [some (.ref a0), some (.int x1), some (.int (x1 / (16 : Int32))), none]) (st' := [.int (1 : Int32)]) (by decide +kernel) rfl rfl ?_
        refine Go.goto (off := 4) (tgt := 189) (by decide +kernel) (by decide) ?_
        refine Go.wk' (wkn (wkn (wkn (wks wk0)))) ?_
        exact x_M_stir_189 hf hI  e
  replace e := ite_f c19 e
  rcases Decidable.em ((x1 - x1 / (16 : Int32) * (16 : Int32)) = 5) with c25 | c25
  · replace e := ite_t c25 e
    refine Go.tsIn (dflt := 259) (lo := 0) (hi := 13) (offs := #[71, 108, 108, 132, 132, 132, 184, 184, 184, 184, 209, 221, 221, 240]) (len := 71) (off := 132) (tgt := 141) 5 (by decide +kernel) (by rw [c25]; decide) (by decide) (by decide) (by decide) (by decide) ?_
    refine Go.run (pc' := 142) [.aload_n 0] (ls' := [some (.ref a0), some (.int x1), some (.int (x1 / (16 : Int32))), none]) (st' := [.ref a0]) (by decide +kernel) rfl rfl ?_
    refine Go.getR fo_M_13 k0 (by decide +kernel) ?_
    refine Go.run (pc' := 148) [.sipush (185)] (ls' := [some (.ref a0), some (.int x1), some (.int (x1 / (16 : Int32))), none]) (st' := [.int (185 : Int32), .ref (fld a0 2)]) (by decide +kernel) rfl rfl ?_
    obtain ⟨g26, e⟩ := gd_inv e
    refine Go.iald (kf_8_j 2 k0 (by decide) (by decide)) (al_8_j 2 k0 (by decide) (by decide) rfl) g26 (by decide +kernel) ?_
    refine Go.run (pc' := 151) [.bipush (10)] (ls' := [some (.ref a0), some (.int x1), some (.int (x1 / (16 : Int32))), none]) (st' := [.int (10 : Int32), .int (h (fld a0 2) (185 : Int32).toNatClampNeg)]) (by decide +kernel) rfl rfl ?_
    refine Go.ic_ge (off := 37) (tgt := 188) (by decide +kernel) (by decide) (fun c27 => ?_) (fun c27 => ?_)
    · replace e := ite_t c27 e
      refine Go.wk' (wkn (wkn (wkn (wks wk0)))) ?_
      exact x_M_stir_188 hf hI  e
    · replace e := ite_f c27 e
      refine Go.run (pc' := 155) [.aload_n 0] (ls' := [some (.ref a0), some (.int x1), some (.int (x1 / (16 : Int32))), none]) (st' := [.ref a0]) (by decide +kernel) rfl rfl ?_
      refine Go.getR fo_M_13 k0 (by decide +kernel) ?_
      refine Go.run (pc' := 178) [.iload_n 2, .bipush (6), .irem, .iconst 1, .iload_n 2, .bipush (8), .idiv, .bipush (9), .irem, .iadd, .iload_n 2, .sipush (128), .idiv, .iconst 4, .irem] (ls' := [some (.ref a0), some (.int x1), some (.int (x1 / (16 : Int32))), none]) (st' := [.int (((x1 / (16 : Int32)) / (128 : Int32)) - ((x1 / (16 : Int32)) / (128 : Int32)) / (4 : Int32) * (4 : Int32)), .int ((1 : Int32) + (((x1 / (16 : Int32)) / (8 : Int32)) - ((x1 / (16 : Int32)) / (8 : Int32)) / (9 : Int32) * (9 : Int32))), .int ((x1 / (16 : Int32)) - (x1 / (16 : Int32)) / (6 : Int32) * (6 : Int32)), .ref (fld a0 2)]) (by decide +kernel) rfl rfl ?_
      obtain ⟨v28, e29, e⟩ := bd_inv e
      refine Go.callS (M2 := m_M_addDealer) (as := [.ref (fld a0 2), .int ((x1 / (16 : Int32)) - (x1 / (16 : Int32)) / (6 : Int32) * (6 : Int32)), .int ((1 : Int32) + (((x1 / (16 : Int32)) / (8 : Int32)) - ((x1 / (16 : Int32)) / (8 : Int32)) / (9 : Int32) * (9 : Int32))), .int (((x1 / (16 : Int32)) / (128 : Int32)) - ((x1 / (16 : Int32)) / (128 : Int32)) / (4 : Int32) * (4 : Int32))]) (rest := []) (v := some (.int v28.1)) (h1 := v28.2) (x_M_addDealer hf hI (kf_8_j 2 k0 (by decide) (by decide)) (al_8_j 2 k0 (by decide) (by decide) rfl) e29) ws_M_181 (by decide +kernel) rfl rfl ⟨⟨Nat.le_of_ble_eq_true rfl, Nat.le_of_ble_eq_true rfl⟩, ⟨Nat.le_of_ble_eq_true rfl, Nat.le_of_ble_eq_true rfl⟩⟩ (Nat.le_of_ble_eq_true rfl) ?_
      show Go l D ad aC (rmk m_M_stir) _ m_M_stir 181 [some (.ref a0), some (.int x1), some (.int (x1 / (16 : Int32))), none] [.int v28.1] v28.2 0 0
      refine Go.if_lt (off := 7) (tgt := 188) (by decide +kernel) (by decide) (fun c30 => ?_) (fun c30 => ?_)
      · replace e := ite_t c30 e
        refine Go.wk' (wkn (wkn (wkn (wks wk0)))) ?_
        exact x_M_stir_188 hf hI  e
      · replace e := ite_f c30 e
        refine Go.run (pc' := 185) [.iconst 1] (ls' := [some (.ref a0), some (.int x1), some (.int (x1 / (16 : Int32))), none]) (st' := [.int (1 : Int32)]) (by decide +kernel) rfl rfl ?_
        refine Go.goto (off := 4) (tgt := 189) (by decide +kernel) (by decide) ?_
        refine Go.wk' (wkn (wkn (wkn (wks wk0)))) ?_
        exact x_M_stir_189 hf hI  e
  replace e := ite_f c25 e
  rcases Decidable.em ((x1 - x1 / (16 : Int32) * (16 : Int32)) = 6) with c31 | c31
  · replace e := ite_t c31 e
    refine Go.tsIn (dflt := 259) (lo := 0) (hi := 13) (offs := #[71, 108, 108, 132, 132, 132, 184, 184, 184, 184, 209, 221, 221, 240]) (len := 71) (off := 184) (tgt := 193) 6 (by decide +kernel) (by rw [c31]; decide) (by decide) (by decide) (by decide) (by decide) ?_
    refine Go.run (pc' := 211) [.aload_n 0, .iload_n 2, .bipush (10), .irem, .iload_n 2, .bipush (16), .idiv, .iconst 4, .irem, .iload_n 2, .bipush (64), .idiv, .bipush (30), .irem] (ls' := [some (.ref a0), some (.int x1), some (.int (x1 / (16 : Int32))), none]) (st' := [.int (((x1 / (16 : Int32)) / (64 : Int32)) - ((x1 / (16 : Int32)) / (64 : Int32)) / (30 : Int32) * (30 : Int32)), .int (((x1 / (16 : Int32)) / (16 : Int32)) - ((x1 / (16 : Int32)) / (16 : Int32)) / (4 : Int32) * (4 : Int32)), .int ((x1 / (16 : Int32)) - (x1 / (16 : Int32)) / (10 : Int32) * (10 : Int32)), .ref a0]) (by decide +kernel) rfl rfl ?_
    obtain ⟨v32, e33, e⟩ := bd_inv e
    refine Go.callV (M2 := m_M_runPlace) (a := a0) (as := [.int ((x1 / (16 : Int32)) - (x1 / (16 : Int32)) / (10 : Int32) * (10 : Int32)), .int (((x1 / (16 : Int32)) / (16 : Int32)) - ((x1 / (16 : Int32)) / (16 : Int32)) / (4 : Int32) * (4 : Int32)), .int (((x1 / (16 : Int32)) / (64 : Int32)) - ((x1 / (16 : Int32)) / (64 : Int32)) / (30 : Int32) * (30 : Int32))]) (rest := []) (v := some (.int v32.1)) (h1 := v32.2) (x_M_runPlace hf hI k0 e33) wv_M_284 k0 kc_8 (by decide +kernel) rfl rfl ⟨⟨Nat.le_of_ble_eq_true rfl, Nat.le_of_ble_eq_true rfl⟩, ⟨Nat.le_of_ble_eq_true rfl, Nat.le_of_ble_eq_true rfl⟩⟩ (Nat.le_of_ble_eq_true rfl) ?_
    show Go l D ad aC (rmk m_M_stir) _ m_M_stir 214 [some (.ref a0), some (.int x1), some (.int (x1 / (16 : Int32))), none] [.int v32.1] v32.2 0 0
    refine Go.run (pc' := 215) [.istore_n 3] (ls' := [some (.ref a0), some (.int x1), some (.int (x1 / (16 : Int32))), some (.int v32.1)]) (st' := []) (by decide +kernel) rfl rfl ?_
    refine Go.goto (off := 63) (tgt := 278) (by decide +kernel) (by decide) ?_
    obtain rfl := Option.some.inj e
    exact Go.vret rfl (by decide) (by decide) (by decide +kernel)
  replace e := ite_f c31 e
  rcases Decidable.em ((x1 - x1 / (16 : Int32) * (16 : Int32)) = 7) with c34 | c34
  · replace e := ite_t c34 e
    refine Go.tsIn (dflt := 259) (lo := 0) (hi := 13) (offs := #[71, 108, 108, 132, 132, 132, 184, 184, 184, 184, 209, 221, 221, 240]) (len := 71) (off := 184) (tgt := 193) 7 (by decide +kernel) (by rw [c34]; decide) (by decide) (by decide) (by decide) (by decide) ?_
    refine Go.run (pc' := 211) [.aload_n 0, .iload_n 2, .bipush (10), .irem, .iload_n 2, .bipush (16), .idiv, .iconst 4, .irem, .iload_n 2, .bipush (64), .idiv, .bipush (30), .irem] (ls' := [some (.ref a0), some (.int x1), some (.int (x1 / (16 : Int32))), none]) (st' := [.int (((x1 / (16 : Int32)) / (64 : Int32)) - ((x1 / (16 : Int32)) / (64 : Int32)) / (30 : Int32) * (30 : Int32)), .int (((x1 / (16 : Int32)) / (16 : Int32)) - ((x1 / (16 : Int32)) / (16 : Int32)) / (4 : Int32) * (4 : Int32)), .int ((x1 / (16 : Int32)) - (x1 / (16 : Int32)) / (10 : Int32) * (10 : Int32)), .ref a0]) (by decide +kernel) rfl rfl ?_
    obtain ⟨v35, e36, e⟩ := bd_inv e
    refine Go.callV (M2 := m_M_runPlace) (a := a0) (as := [.int ((x1 / (16 : Int32)) - (x1 / (16 : Int32)) / (10 : Int32) * (10 : Int32)), .int (((x1 / (16 : Int32)) / (16 : Int32)) - ((x1 / (16 : Int32)) / (16 : Int32)) / (4 : Int32) * (4 : Int32)), .int (((x1 / (16 : Int32)) / (64 : Int32)) - ((x1 / (16 : Int32)) / (64 : Int32)) / (30 : Int32) * (30 : Int32))]) (rest := []) (v := some (.int v35.1)) (h1 := v35.2) (x_M_runPlace hf hI k0 e36) wv_M_284 k0 kc_8 (by decide +kernel) rfl rfl ⟨⟨Nat.le_of_ble_eq_true rfl, Nat.le_of_ble_eq_true rfl⟩, ⟨Nat.le_of_ble_eq_true rfl, Nat.le_of_ble_eq_true rfl⟩⟩ (Nat.le_of_ble_eq_true rfl) ?_
    show Go l D ad aC (rmk m_M_stir) _ m_M_stir 214 [some (.ref a0), some (.int x1), some (.int (x1 / (16 : Int32))), none] [.int v35.1] v35.2 0 0
    refine Go.run (pc' := 215) [.istore_n 3] (ls' := [some (.ref a0), some (.int x1), some (.int (x1 / (16 : Int32))), some (.int v35.1)]) (st' := []) (by decide +kernel) rfl rfl ?_
    refine Go.goto (off := 63) (tgt := 278) (by decide +kernel) (by decide) ?_
    obtain rfl := Option.some.inj e
    exact Go.vret rfl (by decide) (by decide) (by decide +kernel)
  replace e := ite_f c34 e
  rcases Decidable.em ((x1 - x1 / (16 : Int32) * (16 : Int32)) = 8) with c37 | c37
  · replace e := ite_t c37 e
    refine Go.tsIn (dflt := 259) (lo := 0) (hi := 13) (offs := #[71, 108, 108, 132, 132, 132, 184, 184, 184, 184, 209, 221, 221, 240]) (len := 71) (off := 184) (tgt := 193) 8 (by decide +kernel) (by rw [c37]; decide) (by decide) (by decide) (by decide) (by decide) ?_
    refine Go.run (pc' := 211) [.aload_n 0, .iload_n 2, .bipush (10), .irem, .iload_n 2, .bipush (16), .idiv, .iconst 4, .irem, .iload_n 2, .bipush (64), .idiv, .bipush (30), .irem] (ls' := [some (.ref a0), some (.int x1), some (.int (x1 / (16 : Int32))), none]) (st' := [.int (((x1 / (16 : Int32)) / (64 : Int32)) - ((x1 / (16 : Int32)) / (64 : Int32)) / (30 : Int32) * (30 : Int32)), .int (((x1 / (16 : Int32)) / (16 : Int32)) - ((x1 / (16 : Int32)) / (16 : Int32)) / (4 : Int32) * (4 : Int32)), .int ((x1 / (16 : Int32)) - (x1 / (16 : Int32)) / (10 : Int32) * (10 : Int32)), .ref a0]) (by decide +kernel) rfl rfl ?_
    obtain ⟨v38, e39, e⟩ := bd_inv e
    refine Go.callV (M2 := m_M_runPlace) (a := a0) (as := [.int ((x1 / (16 : Int32)) - (x1 / (16 : Int32)) / (10 : Int32) * (10 : Int32)), .int (((x1 / (16 : Int32)) / (16 : Int32)) - ((x1 / (16 : Int32)) / (16 : Int32)) / (4 : Int32) * (4 : Int32)), .int (((x1 / (16 : Int32)) / (64 : Int32)) - ((x1 / (16 : Int32)) / (64 : Int32)) / (30 : Int32) * (30 : Int32))]) (rest := []) (v := some (.int v38.1)) (h1 := v38.2) (x_M_runPlace hf hI k0 e39) wv_M_284 k0 kc_8 (by decide +kernel) rfl rfl ⟨⟨Nat.le_of_ble_eq_true rfl, Nat.le_of_ble_eq_true rfl⟩, ⟨Nat.le_of_ble_eq_true rfl, Nat.le_of_ble_eq_true rfl⟩⟩ (Nat.le_of_ble_eq_true rfl) ?_
    show Go l D ad aC (rmk m_M_stir) _ m_M_stir 214 [some (.ref a0), some (.int x1), some (.int (x1 / (16 : Int32))), none] [.int v38.1] v38.2 0 0
    refine Go.run (pc' := 215) [.istore_n 3] (ls' := [some (.ref a0), some (.int x1), some (.int (x1 / (16 : Int32))), some (.int v38.1)]) (st' := []) (by decide +kernel) rfl rfl ?_
    refine Go.goto (off := 63) (tgt := 278) (by decide +kernel) (by decide) ?_
    obtain rfl := Option.some.inj e
    exact Go.vret rfl (by decide) (by decide) (by decide +kernel)
  replace e := ite_f c37 e
  rcases Decidable.em ((x1 - x1 / (16 : Int32) * (16 : Int32)) = 9) with c40 | c40
  · replace e := ite_t c40 e
    refine Go.tsIn (dflt := 259) (lo := 0) (hi := 13) (offs := #[71, 108, 108, 132, 132, 132, 184, 184, 184, 184, 209, 221, 221, 240]) (len := 71) (off := 184) (tgt := 193) 9 (by decide +kernel) (by rw [c40]; decide) (by decide) (by decide) (by decide) (by decide) ?_
    refine Go.run (pc' := 211) [.aload_n 0, .iload_n 2, .bipush (10), .irem, .iload_n 2, .bipush (16), .idiv, .iconst 4, .irem, .iload_n 2, .bipush (64), .idiv, .bipush (30), .irem] (ls' := [some (.ref a0), some (.int x1), some (.int (x1 / (16 : Int32))), none]) (st' := [.int (((x1 / (16 : Int32)) / (64 : Int32)) - ((x1 / (16 : Int32)) / (64 : Int32)) / (30 : Int32) * (30 : Int32)), .int (((x1 / (16 : Int32)) / (16 : Int32)) - ((x1 / (16 : Int32)) / (16 : Int32)) / (4 : Int32) * (4 : Int32)), .int ((x1 / (16 : Int32)) - (x1 / (16 : Int32)) / (10 : Int32) * (10 : Int32)), .ref a0]) (by decide +kernel) rfl rfl ?_
    obtain ⟨v41, e42, e⟩ := bd_inv e
    refine Go.callV (M2 := m_M_runPlace) (a := a0) (as := [.int ((x1 / (16 : Int32)) - (x1 / (16 : Int32)) / (10 : Int32) * (10 : Int32)), .int (((x1 / (16 : Int32)) / (16 : Int32)) - ((x1 / (16 : Int32)) / (16 : Int32)) / (4 : Int32) * (4 : Int32)), .int (((x1 / (16 : Int32)) / (64 : Int32)) - ((x1 / (16 : Int32)) / (64 : Int32)) / (30 : Int32) * (30 : Int32))]) (rest := []) (v := some (.int v41.1)) (h1 := v41.2) (x_M_runPlace hf hI k0 e42) wv_M_284 k0 kc_8 (by decide +kernel) rfl rfl ⟨⟨Nat.le_of_ble_eq_true rfl, Nat.le_of_ble_eq_true rfl⟩, ⟨Nat.le_of_ble_eq_true rfl, Nat.le_of_ble_eq_true rfl⟩⟩ (Nat.le_of_ble_eq_true rfl) ?_
    show Go l D ad aC (rmk m_M_stir) _ m_M_stir 214 [some (.ref a0), some (.int x1), some (.int (x1 / (16 : Int32))), none] [.int v41.1] v41.2 0 0
    refine Go.run (pc' := 215) [.istore_n 3] (ls' := [some (.ref a0), some (.int x1), some (.int (x1 / (16 : Int32))), some (.int v41.1)]) (st' := []) (by decide +kernel) rfl rfl ?_
    refine Go.goto (off := 63) (tgt := 278) (by decide +kernel) (by decide) ?_
    obtain rfl := Option.some.inj e
    exact Go.vret rfl (by decide) (by decide) (by decide +kernel)
  replace e := ite_f c40 e
  rcases Decidable.em ((x1 - x1 / (16 : Int32) * (16 : Int32)) = 10) with c43 | c43
  · replace e := ite_t c43 e
    refine Go.tsIn (dflt := 259) (lo := 0) (hi := 13) (offs := #[71, 108, 108, 132, 132, 132, 184, 184, 184, 184, 209, 221, 221, 240]) (len := 71) (off := 209) (tgt := 218) 10 (by decide +kernel) (by rw [c43]; decide) (by decide) (by decide) (by decide) (by decide) ?_
    refine Go.run (pc' := 223) [.aload_n 0, .iload_n 2, .bipush (10), .irem] (ls' := [some (.ref a0), some (.int x1), some (.int (x1 / (16 : Int32))), none]) (st' := [.int ((x1 / (16 : Int32)) - (x1 / (16 : Int32)) / (10 : Int32) * (10 : Int32)), .ref a0]) (by decide +kernel) rfl rfl ?_
    obtain ⟨v44, e45, e⟩ := bd_inv e
    refine Go.callV (M2 := m_M_runLeave) (a := a0) (as := [.int ((x1 / (16 : Int32)) - (x1 / (16 : Int32)) / (10 : Int32) * (10 : Int32))]) (rest := []) (v := some (.int v44.1)) (h1 := v44.2) (x_M_runLeave hf hI k0 e45) wv_M_290 k0 kc_8 (by decide +kernel) rfl rfl ⟨⟨Nat.le_of_ble_eq_true rfl, Nat.le_of_ble_eq_true rfl⟩, ⟨Nat.le_of_ble_eq_true rfl, Nat.le_of_ble_eq_true rfl⟩⟩ (Nat.le_of_ble_eq_true rfl) ?_
    show Go l D ad aC (rmk m_M_stir) _ m_M_stir 226 [some (.ref a0), some (.int x1), some (.int (x1 / (16 : Int32))), none] [.int v44.1] v44.2 0 0
    refine Go.run (pc' := 227) [.istore_n 3] (ls' := [some (.ref a0), some (.int x1), some (.int (x1 / (16 : Int32))), some (.int v44.1)]) (st' := []) (by decide +kernel) rfl rfl ?_
    refine Go.goto (off := 51) (tgt := 278) (by decide +kernel) (by decide) ?_
    obtain rfl := Option.some.inj e
    exact Go.vret rfl (by decide) (by decide) (by decide +kernel)
  replace e := ite_f c43 e
  rcases Decidable.em ((x1 - x1 / (16 : Int32) * (16 : Int32)) = 11) with c46 | c46
  · replace e := ite_t c46 e
    refine Go.tsIn (dflt := 259) (lo := 0) (hi := 13) (offs := #[71, 108, 108, 132, 132, 132, 184, 184, 184, 184, 209, 221, 221, 240]) (len := 71) (off := 221) (tgt := 230) 11 (by decide +kernel) (by rw [c46]; decide) (by decide) (by decide) (by decide) (by decide) ?_
    refine Go.run (pc' := 242) [.aload_n 0, .iload_n 2, .bipush (10), .irem, .iload_n 2, .bipush (16), .idiv, .bipush (10), .irem] (ls' := [some (.ref a0), some (.int x1), some (.int (x1 / (16 : Int32))), none]) (st' := [.int (((x1 / (16 : Int32)) / (16 : Int32)) - ((x1 / (16 : Int32)) / (16 : Int32)) / (10 : Int32) * (10 : Int32)), .int ((x1 / (16 : Int32)) - (x1 / (16 : Int32)) / (10 : Int32) * (10 : Int32)), .ref a0]) (by decide +kernel) rfl rfl ?_
    obtain ⟨v47, e48, e⟩ := bd_inv e
    refine Go.callV (M2 := m_M_runSwap) (a := a0) (as := [.int ((x1 / (16 : Int32)) - (x1 / (16 : Int32)) / (10 : Int32) * (10 : Int32)), .int (((x1 / (16 : Int32)) / (16 : Int32)) - ((x1 / (16 : Int32)) / (16 : Int32)) / (10 : Int32) * (10 : Int32))]) (rest := []) (v := some (.int v47.1)) (h1 := v47.2) (x_M_runSwap hf hI k0 e48) wv_M_287 k0 kc_8 (by decide +kernel) rfl rfl ⟨⟨Nat.le_of_ble_eq_true rfl, Nat.le_of_ble_eq_true rfl⟩, ⟨Nat.le_of_ble_eq_true rfl, Nat.le_of_ble_eq_true rfl⟩⟩ (Nat.le_of_ble_eq_true rfl) ?_
    show Go l D ad aC (rmk m_M_stir) _ m_M_stir 245 [some (.ref a0), some (.int x1), some (.int (x1 / (16 : Int32))), none] [.int v47.1] v47.2 0 0
    refine Go.run (pc' := 246) [.istore_n 3] (ls' := [some (.ref a0), some (.int x1), some (.int (x1 / (16 : Int32))), some (.int v47.1)]) (st' := []) (by decide +kernel) rfl rfl ?_
    refine Go.goto (off := 32) (tgt := 278) (by decide +kernel) (by decide) ?_
    obtain rfl := Option.some.inj e
    exact Go.vret rfl (by decide) (by decide) (by decide +kernel)
  replace e := ite_f c46 e
  rcases Decidable.em ((x1 - x1 / (16 : Int32) * (16 : Int32)) = 12) with c49 | c49
  · replace e := ite_t c49 e
    refine Go.tsIn (dflt := 259) (lo := 0) (hi := 13) (offs := #[71, 108, 108, 132, 132, 132, 184, 184, 184, 184, 209, 221, 221, 240]) (len := 71) (off := 221) (tgt := 230) 12 (by decide +kernel) (by rw [c49]; decide) (by decide) (by decide) (by decide) (by decide) ?_
    refine Go.run (pc' := 242) [.aload_n 0, .iload_n 2, .bipush (10), .irem, .iload_n 2, .bipush (16), .idiv, .bipush (10), .irem] (ls' := [some (.ref a0), some (.int x1), some (.int (x1 / (16 : Int32))), none]) (st' := [.int (((x1 / (16 : Int32)) / (16 : Int32)) - ((x1 / (16 : Int32)) / (16 : Int32)) / (10 : Int32) * (10 : Int32)), .int ((x1 / (16 : Int32)) - (x1 / (16 : Int32)) / (10 : Int32) * (10 : Int32)), .ref a0]) (by decide +kernel) rfl rfl ?_
    obtain ⟨v50, e51, e⟩ := bd_inv e
    refine Go.callV (M2 := m_M_runSwap) (a := a0) (as := [.int ((x1 / (16 : Int32)) - (x1 / (16 : Int32)) / (10 : Int32) * (10 : Int32)), .int (((x1 / (16 : Int32)) / (16 : Int32)) - ((x1 / (16 : Int32)) / (16 : Int32)) / (10 : Int32) * (10 : Int32))]) (rest := []) (v := some (.int v50.1)) (h1 := v50.2) (x_M_runSwap hf hI k0 e51) wv_M_287 k0 kc_8 (by decide +kernel) rfl rfl ⟨⟨Nat.le_of_ble_eq_true rfl, Nat.le_of_ble_eq_true rfl⟩, ⟨Nat.le_of_ble_eq_true rfl, Nat.le_of_ble_eq_true rfl⟩⟩ (Nat.le_of_ble_eq_true rfl) ?_
    show Go l D ad aC (rmk m_M_stir) _ m_M_stir 245 [some (.ref a0), some (.int x1), some (.int (x1 / (16 : Int32))), none] [.int v50.1] v50.2 0 0
    refine Go.run (pc' := 246) [.istore_n 3] (ls' := [some (.ref a0), some (.int x1), some (.int (x1 / (16 : Int32))), some (.int v50.1)]) (st' := []) (by decide +kernel) rfl rfl ?_
    refine Go.goto (off := 32) (tgt := 278) (by decide +kernel) (by decide) ?_
    obtain rfl := Option.some.inj e
    exact Go.vret rfl (by decide) (by decide) (by decide +kernel)
  replace e := ite_f c49 e
  rcases Decidable.em ((x1 - x1 / (16 : Int32) * (16 : Int32)) = 13) with c52 | c52
  · replace e := ite_t c52 e
    refine Go.tsIn (dflt := 259) (lo := 0) (hi := 13) (offs := #[71, 108, 108, 132, 132, 132, 184, 184, 184, 184, 209, 221, 221, 240]) (len := 71) (off := 240) (tgt := 249) 13 (by decide +kernel) (by rw [c52]; decide) (by decide) (by decide) (by decide) (by decide) ?_
    refine Go.run (pc' := 261) [.aload_n 0, .iload_n 2, .bipush (6), .irem, .iload_n 2, .bipush (8), .idiv, .bipush (12), .irem] (ls' := [some (.ref a0), some (.int x1), some (.int (x1 / (16 : Int32))), none]) (st' := [.int (((x1 / (16 : Int32)) / (8 : Int32)) - ((x1 / (16 : Int32)) / (8 : Int32)) / (12 : Int32) * (12 : Int32)), .int ((x1 / (16 : Int32)) - (x1 / (16 : Int32)) / (6 : Int32) * (6 : Int32)), .ref a0]) (by decide +kernel) rfl rfl ?_
    obtain ⟨v53, e54, e⟩ := bd_inv e
    refine Go.callV (M2 := m_M_runSet) (a := a0) (as := [.int ((x1 / (16 : Int32)) - (x1 / (16 : Int32)) / (6 : Int32) * (6 : Int32)), .int (((x1 / (16 : Int32)) / (8 : Int32)) - ((x1 / (16 : Int32)) / (8 : Int32)) / (12 : Int32) * (12 : Int32))]) (rest := []) (v := some (.int v53.1)) (h1 := v53.2) (x_M_runSet hf hI k0 e54) wv_M_296 k0 kc_8 (by decide +kernel) rfl rfl ⟨⟨Nat.le_of_ble_eq_true rfl, Nat.le_of_ble_eq_true rfl⟩, ⟨Nat.le_of_ble_eq_true rfl, Nat.le_of_ble_eq_true rfl⟩⟩ (Nat.le_of_ble_eq_true rfl) ?_
    show Go l D ad aC (rmk m_M_stir) _ m_M_stir 264 [some (.ref a0), some (.int x1), some (.int (x1 / (16 : Int32))), none] [.int v53.1] v53.2 0 0
    refine Go.run (pc' := 265) [.istore_n 3] (ls' := [some (.ref a0), some (.int x1), some (.int (x1 / (16 : Int32))), some (.int v53.1)]) (st' := []) (by decide +kernel) rfl rfl ?_
    refine Go.goto (off := 13) (tgt := 278) (by decide +kernel) (by decide) ?_
    obtain rfl := Option.some.inj e
    exact Go.vret rfl (by decide) (by decide) (by decide +kernel)
  replace e := ite_f c52 e
  refine Go.tsOut (dflt := 259) (lo := 0) (hi := 13) (offs := #[71, 108, 108, 132, 132, 132, 184, 184, 184, 184, 209, 221, 221, 240]) (len := 71) (tgt := 268) (by decide +kernel) (by have zc1 := lv_neT c1 (a := 0) rfl; have zc7 := lv_neT c7 (a := 1) rfl; have zc10 := lv_neT c10 (a := 2) rfl; have zc13 := lv_neT c13 (a := 3) rfl; have zc19 := lv_neT c19 (a := 4) rfl; have zc25 := lv_neT c25 (a := 5) rfl; have zc31 := lv_neT c31 (a := 6) rfl; have zc34 := lv_neT c34 (a := 7) rfl; have zc37 := lv_neT c37 (a := 8) rfl; have zc40 := lv_neT c40 (a := 9) rfl; have zc43 := lv_neT c43 (a := 10) rfl; have zc46 := lv_neT c46 (a := 11) rfl; have zc49 := lv_neT c49 (a := 12) rfl; have zc52 := lv_neT c52 (a := 13) rfl; omega) (by decide) ?_
  refine Go.run (pc' := 274) [.aload_n 0, .iconst 1, .iload_n 2, .iconst 5, .irem, .iadd] (ls' := [some (.ref a0), some (.int x1), some (.int (x1 / (16 : Int32))), none]) (st' := [.int ((1 : Int32) + ((x1 / (16 : Int32)) - (x1 / (16 : Int32)) / (5 : Int32) * (5 : Int32))), .ref a0]) (by decide +kernel) rfl rfl ?_
  obtain ⟨v55, e56, e⟩ := bd_inv e
  refine Go.callV (M2 := m_M_runDays) (a := a0) (as := [.int ((1 : Int32) + ((x1 / (16 : Int32)) - (x1 / (16 : Int32)) / (5 : Int32) * (5 : Int32)))]) (rest := []) (v := some (.int v55.1)) (h1 := v55.2) (x_M_runDays hf hI k0 e56) wv_M_293 k0 kc_8 (by decide +kernel) rfl rfl ⟨⟨Nat.le_of_ble_eq_true rfl, Nat.le_of_ble_eq_true rfl⟩, ⟨Nat.le_of_ble_eq_true rfl, Nat.le_of_ble_eq_true rfl⟩⟩ (Nat.le_of_ble_eq_true rfl) ?_
  show Go l D ad aC (rmk m_M_stir) _ m_M_stir 277 [some (.ref a0), some (.int x1), some (.int (x1 / (16 : Int32))), none] [.int v55.1] v55.2 0 0
  refine Go.run (pc' := 278) [.istore_n 3] (ls' := [some (.ref a0), some (.int x1), some (.int (x1 / (16 : Int32))), some (.int v55.1)]) (st' := []) (by decide +kernel) rfl rfl ?_
  obtain rfl := Option.some.inj e
  exact Go.vret rfl (by decide) (by decide) (by decide +kernel)
def f_M_simulate_43  : Nat → Nat → Int32 → Int64 → Int32 → HP → Option (Int32 × HP)
  | 0, _, _, _, _, _ => none
  | n + 1, a0, x3, y4, x6, h =>
    if x3 ≤ x6 then
      (f_M_rents h a0 (fld a0 2)).bind fun v2 =>
      (f_M_standing v2.2 (fld a0 2)).bind fun v4 =>
      if ib (184 : Int32) 196 = true then
      some ((((1000 : Int32) * v2.1) + ((10 : Int32) * v4)) + (v2.2 (fld a0 2) (184 : Int32).toNatClampNeg), v2.2)
      else none
    else
      (f_M_stir h a0 (((((y4 * (6364136223846793005 : Int64)) + (1442695040888963407 : Int64)).toUInt64 >>> ((33 : Int32).toInt64.toUInt64 &&& Int64.toUInt64 63)).toInt64).toInt32)).bind fun v7 =>
      f_M_simulate_43 n a0 x3 ((y4 * (6364136223846793005 : Int64)) + (1442695040888963407 : Int64)) (x6 + (1 : Int32)) v7
set_option maxHeartbeats 1000000 in
theorem x_M_simulate_43 {l : Launch} {D : va_G} {ad : Nat → Nat} {aC : Nat → ClassId} (hf : l.flags = flags0) (hI : Inj ad) : ∀ (n : Nat) {a0 : Nat} {x3 : Int32} {y4 : Int64} {x6 : Int32} {h : HP} {r : Int32 × HP}, knd a0 = 8 → f_M_simulate_43 n a0 x3 y4 x6 h = some r → Go l D ad aC (rmk m_M_simulate) (QM D ad aC m_M_simulate (.inl (some (.int r.1))) r.2) m_M_simulate 43 [some (.ref a0), none, none, some (.int x3), some (.long y4), none, some (.int x6)] [] h 0 0 := by
  intro n
  induction n with
  | zero => intro a0 x3 y4 x6 h r k0 e; exact no_none e
  | succ n ih =>
    intro a0 x3 y4 x6 h r k0 e
    rw [f_M_simulate_43] at e
    refine Go.run (pc' := 46) [.iload 6, .iload_n 3] (ls' := [some (.ref a0), none, none, some (.int x3), some (.long y4), none, some (.int x6)]) (st' := [.int x3, .int x6]) (by decide +kernel) rfl rfl ?_
    refine Go.ic_ge (off := 31) (tgt := 77) (by decide +kernel) (by decide) (fun c1 => ?_) (fun c1 => ?_)
    · replace e := ite_t c1 e
      refine Go.run (pc' := 82) [.sipush (1000), .aload_n 0, .aload_n 0] (ls' := [some (.ref a0), none, none, some (.int x3), some (.long y4), none, some (.int x6)]) (st' := [.ref a0, .ref a0, .int (1000 : Int32)]) (by decide +kernel) rfl rfl ?_
      refine Go.getR fo_M_13 k0 (by decide +kernel) ?_
      obtain ⟨v2, e3, e⟩ := bd_inv e
      refine Go.callV (M2 := m_M_rents) (a := a0) (as := [.ref (fld a0 2)]) (rest := [.int (1000 : Int32)]) (v := some (.int v2.1)) (h1 := v2.2) (x_M_rents hf hI k0 (kf_8_j 2 k0 (by decide) (by decide)) (al_8_j 2 k0 (by decide) (by decide) rfl) e3) wv_M_252 k0 kc_8 (by decide +kernel) rfl rfl ⟨⟨Nat.le_of_ble_eq_true rfl, Nat.le_of_ble_eq_true rfl⟩, ⟨Nat.le_of_ble_eq_true rfl, Nat.le_of_ble_eq_true rfl⟩⟩ (Nat.le_of_ble_eq_true rfl) ?_
      show Go l D ad aC (rmk m_M_simulate) _ m_M_simulate 88 [some (.ref a0), none, none, some (.int x3), some (.long y4), none, some (.int x6)] [.int v2.1, .int (1000 : Int32)] v2.2 0 0
      refine Go.run (pc' := 92) [.imul, .bipush (10), .aload_n 0] (ls' := [some (.ref a0), none, none, some (.int x3), some (.long y4), none, some (.int x6)]) (st' := [.ref a0, .int (10 : Int32), .int ((1000 : Int32) * v2.1)]) (by decide +kernel) rfl rfl ?_
      refine Go.getR fo_M_13 k0 (by decide +kernel) ?_
      obtain ⟨v4, e5, e⟩ := bd_inv e
      refine Go.callS (M2 := m_M_standing) (as := [.ref (fld a0 2)]) (rest := [.int (10 : Int32), .int ((1000 : Int32) * v2.1)]) (v := some (.int v4)) (h1 := v2.2) (x_M_standing hf hI (kf_8_j 2 k0 (by decide) (by decide)) (al_8_j 2 k0 (by decide) (by decide) rfl) e5) ws_M_239 (by decide +kernel) rfl rfl ⟨⟨Nat.le_of_ble_eq_true rfl, Nat.le_of_ble_eq_true rfl⟩, ⟨Nat.le_of_ble_eq_true rfl, Nat.le_of_ble_eq_true rfl⟩⟩ (Nat.le_of_ble_eq_true rfl) ?_
      show Go l D ad aC (rmk m_M_simulate) _ m_M_simulate 98 [some (.ref a0), none, none, some (.int x3), some (.long y4), none, some (.int x6)] [.int v4, .int (10 : Int32), .int ((1000 : Int32) * v2.1)] v2.2 0 0
      refine Go.run (pc' := 101) [.imul, .iadd, .aload_n 0] (ls' := [some (.ref a0), none, none, some (.int x3), some (.long y4), none, some (.int x6)]) (st' := [.ref a0, .int (((1000 : Int32) * v2.1) + ((10 : Int32) * v4))]) (by decide +kernel) rfl rfl ?_
      refine Go.getR fo_M_13 k0 (by decide +kernel) ?_
      refine Go.run (pc' := 107) [.sipush (184)] (ls' := [some (.ref a0), none, none, some (.int x3), some (.long y4), none, some (.int x6)]) (st' := [.int (184 : Int32), .ref (fld a0 2), .int (((1000 : Int32) * v2.1) + ((10 : Int32) * v4))]) (by decide +kernel) rfl rfl ?_
      obtain ⟨g6, e⟩ := gd_inv e
      refine Go.iald (kf_8_j 2 k0 (by decide) (by decide)) (al_8_j 2 k0 (by decide) (by decide) rfl) g6 (by decide +kernel) ?_
      refine Go.run (pc' := 109) [.iadd] (ls' := [some (.ref a0), none, none, some (.int x3), some (.long y4), none, some (.int x6)]) (st' := [.int ((((1000 : Int32) * v2.1) + ((10 : Int32) * v4)) + (v2.2 (fld a0 2) (184 : Int32).toNatClampNeg))]) (by decide +kernel) rfl rfl ?_
      obtain rfl := Option.some.inj e
      exact Go.iret rfl (by decide) (by decide) (by decide +kernel)
    · replace e := ite_f c1 e
      refine Go.run (pc' := 51) [.lload 4] (ls' := [some (.ref a0), none, none, some (.int x3), some (.long y4), none, some (.int x6)]) (st' := [.long y4]) (by decide +kernel) rfl rfl ?_
      refine Go.ldc2 lo_M_317 (by decide +kernel) ?_
      refine Go.run (pc' := 55) [.lmul] (ls' := [some (.ref a0), none, none, some (.int x3), some (.long y4), none, some (.int x6)]) (st' := [.long (y4 * (6364136223846793005 : Int64))]) (by decide +kernel) rfl rfl ?_
      refine Go.ldc2 lo_M_319 (by decide +kernel) ?_
      refine Go.run (pc' := 68) [.ladd, .lstore 4, .aload_n 0, .lload 4, .bipush (33), .lushr, .l2i] (ls' := [some (.ref a0), none, none, some (.int x3), some (.long ((y4 * (6364136223846793005 : Int64)) + (1442695040888963407 : Int64))), none, some (.int x6)]) (st' := [.int (((((y4 * (6364136223846793005 : Int64)) + (1442695040888963407 : Int64)).toUInt64 >>> ((33 : Int32).toInt64.toUInt64 &&& Int64.toUInt64 63)).toInt64).toInt32), .ref a0]) (by decide +kernel) rfl rfl ?_
      obtain ⟨v7, e8, e⟩ := bd_inv e
      refine Go.callV (M2 := m_M_stir) (a := a0) (as := [.int (((((y4 * (6364136223846793005 : Int64)) + (1442695040888963407 : Int64)).toUInt64 >>> ((33 : Int32).toInt64.toUInt64 &&& Int64.toUInt64 63)).toInt64).toInt32)]) (rest := []) (v := none) (h1 := v7) (x_M_stir hf hI k0 e8) wv_M_321 k0 kc_8 (by decide +kernel) rfl rfl ⟨⟨Nat.le_of_ble_eq_true rfl, Nat.le_of_ble_eq_true rfl⟩, ⟨Nat.le_of_ble_eq_true rfl, Nat.le_of_ble_eq_true rfl⟩⟩ (Nat.le_of_ble_eq_true rfl) ?_
      show Go l D ad aC (rmk m_M_simulate) _ m_M_simulate 71 [some (.ref a0), none, none, some (.int x3), some (.long ((y4 * (6364136223846793005 : Int64)) + (1442695040888963407 : Int64))), none, some (.int x6)] [] v7 0 0
      refine Go.run (pc' := 74) [.iinc 6 (1)] (ls' := [some (.ref a0), none, none, some (.int x3), some (.long ((y4 * (6364136223846793005 : Int64)) + (1442695040888963407 : Int64))), none, some (.int (x6 + (1 : Int32)))]) (st' := []) (by decide +kernel) rfl rfl ?_
      refine Go.goto (off := -31) (tgt := 43) (by decide +kernel) (by decide) ?_
      exact ih k0 e
def f_M_simulate_18  (a0 : Nat) (y1 : Int64) (x3 : Int32) (b0 : Nat) (s1 : Int32) (h : HP) : Option (Int32 × HP) :=
  (f_M_refused h b0 s1).bind fun v1 =>
  if v1.1 = 0 then
    (f_M_copy v1.2 (fld a0 1) (fld a0 2)).bind fun v4 =>
    f_M_simulate_43 4096 a0 x3 y1 (0 : Int32) v4
  else
    some ((0 : Int32), v1.2)
set_option maxHeartbeats 1000000 in
theorem x_M_simulate_18 {l : Launch} {D : va_G} {ad : Nat → Nat} {aC : Nat → ClassId} (hf : l.flags = flags0) (hI : Inj ad) {a0 : Nat} {y1 : Int64} {x3 : Int32} {b0 : Nat} {s1 : Int32} {h : HP} {r : Int32 × HP} (k0 : knd a0 = 8) (kb0 : knd b0 = 8) (e : f_M_simulate_18 a0 y1 x3 b0 s1 h = some r) : Go l D ad aC (rmk m_M_simulate) (QM D ad aC m_M_simulate (.inl (some (.int r.1))) r.2) m_M_simulate 18 [some (.ref a0), some (.long y1), none, some (.int x3), none, none, none] [.int s1, .ref b0] h 0 0 := by
  unfold f_M_simulate_18 at e
  obtain ⟨v1, e2, e⟩ := bd_inv e
  refine Go.callV (M2 := m_M_refused) (a := b0) (as := [.int s1]) (rest := []) (v := some (.int v1.1)) (h1 := v1.2) (x_M_refused hf hI kb0 e2) wv_M_142 kb0 kc_8 (by decide +kernel) rfl rfl ⟨⟨Nat.le_of_ble_eq_true rfl, Nat.le_of_ble_eq_true rfl⟩, ⟨Nat.le_of_ble_eq_true rfl, Nat.le_of_ble_eq_true rfl⟩⟩ (Nat.le_of_ble_eq_true rfl) ?_
  show Go l D ad aC (rmk m_M_simulate) _ m_M_simulate 21 [some (.ref a0), some (.long y1), none, some (.int x3), none, none, none] [.int v1.1] v1.2 0 0
  refine Go.if_eq (off := 5) (tgt := 26) (by decide +kernel) (by decide) (fun c3 => ?_) (fun c3 => ?_)
  · replace e := ite_t c3 e
    refine Go.run (pc' := 27) [.aload_n 0] (ls' := [some (.ref a0), some (.long y1), none, some (.int x3), none, none, none]) (st' := [.ref a0]) (by decide +kernel) rfl rfl ?_
    refine Go.getR fo_M_7 k0 (by decide +kernel) ?_
    refine Go.run (pc' := 31) [.aload_n 0] (ls' := [some (.ref a0), some (.long y1), none, some (.int x3), none, none, none]) (st' := [.ref a0, .ref (fld a0 1)]) (by decide +kernel) rfl rfl ?_
    refine Go.getR fo_M_13 k0 (by decide +kernel) ?_
    obtain ⟨v4, e5, e⟩ := bd_inv e
    refine Go.callS (M2 := m_M_copy) (as := [.ref (fld a0 1), .ref (fld a0 2)]) (rest := []) (v := none) (h1 := v4) (x_M_copy hf hI (kf_8_j 1 k0 (by decide) (by decide)) (al_8_j 1 k0 (by decide) (by decide) rfl) (kf_8_j 2 k0 (by decide) (by decide)) (al_8_j 2 k0 (by decide) (by decide) rfl) e5) ws_M_227 (by decide +kernel) rfl rfl ⟨⟨Nat.le_of_ble_eq_true rfl, Nat.le_of_ble_eq_true rfl⟩, ⟨Nat.le_of_ble_eq_true rfl, Nat.le_of_ble_eq_true rfl⟩⟩ (Nat.le_of_ble_eq_true rfl) ?_
    show Go l D ad aC (rmk m_M_simulate) _ m_M_simulate 37 [some (.ref a0), some (.long y1), none, some (.int x3), none, none, none] [] v4 0 0
    refine Go.run (pc' := 43) [.lload_n 1, .lstore 4, .iconst 0, .istore 6] (ls' := [some (.ref a0), some (.long y1), none, some (.int x3), some (.long y1), none, some (.int (0 : Int32))]) (st' := []) (by decide +kernel) rfl rfl ?_
    refine Go.wk' (wks (wkn (wks (wks (wks (wks (wks wk0))))))) ?_
    exact x_M_simulate_43 hf hI 4096 k0 e
  · replace e := ite_f c3 e
    refine Go.run (pc' := 25) [.iconst 0] (ls' := [some (.ref a0), some (.long y1), none, some (.int x3), none, none, none]) (st' := [.int (0 : Int32)]) (by decide +kernel) rfl rfl ?_
    obtain rfl := Option.some.inj e
    exact Go.iret rfl (by decide) (by decide) (by decide +kernel)
def f_M_simulate (h : HP) (a0 : Nat) (y1 : Int64) (x3 : Int32) : Option (Int32 × HP) :=
  (f_M_in h x3.toInt64 (1 : Int64) (60 : Int64)).bind fun v1 =>
  if v1 = 0 then
    f_M_simulate_18 a0 y1 x3 a0 (1 : Int32) h
  else
    f_M_simulate_18 a0 y1 x3 a0 (0 : Int32) h
set_option maxHeartbeats 1000000 in
theorem x_M_simulate {l : Launch} {D : va_G} {ad : Nat → Nat} {aC : Nat → ClassId} (hf : l.flags = flags0) (hI : Inj ad) {h : HP} {a0 : Nat} {y1 : Int64} {x3 : Int32} {r : Int32 × HP} (k0 : knd a0 = 8) (e : f_M_simulate h a0 y1 x3 = some r) : CT l D ad aC m_M_simulate [.ref a0, .long y1, .int x3] h (.inl (some (.int r.1))) r.2 := by
  refine CT.ofGo (by decide +kernel) rfl (Nat.le_of_ble_eq_true rfl) ?_
  unfold f_M_simulate at e
  show Go l D ad aC (rmk m_M_simulate) _ m_M_simulate 0 [some (.ref a0), some (.long y1), none, some (.int x3), none, none, none] [] h 0 0
  refine Go.run (pc' := 4) [.aload_n 0, .iload_n 3, .i2l, .lconst 1] (ls' := [some (.ref a0), some (.long y1), none, some (.int x3), none, none, none]) (st' := [.long (1 : Int64), .long x3.toInt64, .ref a0]) (by decide +kernel) rfl rfl ?_
  refine Go.ldc2 lo_M_278 (by decide +kernel) ?_
  obtain ⟨v1, e2, e⟩ := bd_inv e
  refine Go.callS (M2 := m_M_in) (as := [.long x3.toInt64, .long (1 : Int64), .long (60 : Int64)]) (rest := [.ref a0]) (v := some (.int v1)) (h1 := h) (x_M_in hf hI  e2) ws_M_51 (by decide +kernel) rfl rfl ⟨⟨Nat.le_of_ble_eq_true rfl, Nat.le_of_ble_eq_true rfl⟩, ⟨Nat.le_of_ble_eq_true rfl, Nat.le_of_ble_eq_true rfl⟩⟩ (Nat.le_of_ble_eq_true rfl) ?_
  show Go l D ad aC (rmk m_M_simulate) _ m_M_simulate 10 [some (.ref a0), some (.long y1), none, some (.int x3), none, none, none] [.int v1, .ref a0] h 0 0
  refine Go.if_eq (off := 7) (tgt := 17) (by decide +kernel) (by decide) (fun c3 => ?_) (fun c3 => ?_)
  · replace e := ite_t c3 e
    refine Go.run (pc' := 18) [.iconst 1] (ls' := [some (.ref a0), some (.long y1), none, some (.int x3), none, none, none]) (st' := [.int (1 : Int32), .ref a0]) (by decide +kernel) rfl rfl ?_
    exact x_M_simulate_18 hf hI k0 k0 e
  · replace e := ite_f c3 e
    refine Go.run (pc' := 14) [.iconst 0] (ls' := [some (.ref a0), some (.long y1), none, some (.int x3), none, none, none]) (st' := [.int (0 : Int32), .ref a0]) (by decide +kernel) rfl rfl ?_
    refine Go.goto (off := 4) (tgt := 18) (by decide +kernel) (by decide) ?_
    exact x_M_simulate_18 hf hI k0 k0 e
def f_M_save_26  : Nat → Nat → Int32 → Int32 → HP → Option (Int32 × HP)
  | 0, _, _, _, _ => none
  | n + 1, a0, x1, x2, h =>
    if (196 : Int32) ≤ x2 then
      if ib x1 2 = true then
      (some (hset h (fld a0 7) x1.toNatClampNeg (1 : Int32))).bind fun h3 =>
      if ib (186 : Int32) 196 = true then
      some (h3 (fld a0 1) (186 : Int32).toNatClampNeg, h3)
      else none
      else none
    else
      if ib x2 196 = true then
      if ib (((196 : Int32) * x1) + x2) 392 = true then
      (some (hset h (fld a0 6) (((196 : Int32) * x1) + x2).toNatClampNeg (h (fld a0 1) x2.toNatClampNeg))).bind fun h8 =>
      f_M_save_26 n a0 x1 (x2 + (1 : Int32)) h8
      else none
      else none
set_option maxHeartbeats 1000000 in
theorem x_M_save_26 {l : Launch} {D : va_G} {ad : Nat → Nat} {aC : Nat → ClassId} (hf : l.flags = flags0) (hI : Inj ad) : ∀ (n : Nat) {a0 : Nat} {x1 : Int32} {x2 : Int32} {h : HP} {r : Int32 × HP}, knd a0 = 8 → f_M_save_26 n a0 x1 x2 h = some r → Go l D ad aC (rmk m_M_save) (QM D ad aC m_M_save (.inl (some (.int r.1))) r.2) m_M_save 26 [some (.ref a0), some (.int x1), some (.int x2)] [] h 0 0 := by
  intro n
  induction n with
  | zero => intro a0 x1 x2 h r k0 e; exact no_none e
  | succ n ih =>
    intro a0 x1 x2 h r k0 e
    rw [f_M_save_26] at e
    refine Go.run (pc' := 30) [.iload_n 2, .sipush (196)] (ls' := [some (.ref a0), some (.int x1), some (.int x2)]) (st' := [.int (196 : Int32), .int x2]) (by decide +kernel) rfl rfl ?_
    refine Go.ic_ge (off := 27) (tgt := 57) (by decide +kernel) (by decide) (fun c1 => ?_) (fun c1 => ?_)
    · replace e := ite_t c1 e
      refine Go.run (pc' := 58) [.aload_n 0] (ls' := [some (.ref a0), some (.int x1), some (.int x2)]) (st' := [.ref a0]) (by decide +kernel) rfl rfl ?_
      refine Go.getR fo_M_25 k0 (by decide +kernel) ?_
      refine Go.run (pc' := 63) [.iload_n 1, .iconst 1] (ls' := [some (.ref a0), some (.int x1), some (.int x2)]) (st' := [.int (1 : Int32), .int x1, .ref (fld a0 7)]) (by decide +kernel) rfl rfl ?_
      obtain ⟨g2, e⟩ := gd_inv e
      refine Go.bast hI (kf_8_7 k0) (al_8_7 k0) g2 (isB_vp (by decide)) (by decide +kernel) ?_
      obtain ⟨h3, q4, e⟩ := bd_inv e
      refine Go.eqH (Option.some.inj q4) ?_
      refine Go.run (pc' := 65) [.aload_n 0] (ls' := [some (.ref a0), some (.int x1), some (.int x2)]) (st' := [.ref a0]) (by decide +kernel) rfl rfl ?_
      refine Go.getR fo_M_7 k0 (by decide +kernel) ?_
      refine Go.run (pc' := 71) [.sipush (186)] (ls' := [some (.ref a0), some (.int x1), some (.int x2)]) (st' := [.int (186 : Int32), .ref (fld a0 1)]) (by decide +kernel) rfl rfl ?_
      obtain ⟨g5, e⟩ := gd_inv e
      refine Go.iald (kf_8_j 1 k0 (by decide) (by decide)) (al_8_j 1 k0 (by decide) (by decide) rfl) g5 (by decide +kernel) ?_
      obtain rfl := Option.some.inj e
      exact Go.iret rfl (by decide) (by decide) (by decide +kernel)
    · replace e := ite_f c1 e
      refine Go.run (pc' := 34) [.aload_n 0] (ls' := [some (.ref a0), some (.int x1), some (.int x2)]) (st' := [.ref a0]) (by decide +kernel) rfl rfl ?_
      refine Go.getR fo_M_22 k0 (by decide +kernel) ?_
      refine Go.run (pc' := 45) [.sipush (196), .iload_n 1, .imul, .iload_n 2, .iadd, .aload_n 0] (ls' := [some (.ref a0), some (.int x1), some (.int x2)]) (st' := [.ref a0, .int (((196 : Int32) * x1) + x2), .ref (fld a0 6)]) (by decide +kernel) rfl rfl ?_
      refine Go.getR fo_M_7 k0 (by decide +kernel) ?_
      refine Go.run (pc' := 49) [.iload_n 2] (ls' := [some (.ref a0), some (.int x1), some (.int x2)]) (st' := [.int x2, .ref (fld a0 1), .int (((196 : Int32) * x1) + x2), .ref (fld a0 6)]) (by decide +kernel) rfl rfl ?_
      obtain ⟨g6, e⟩ := gd_inv e
      refine Go.iald (kf_8_j 1 k0 (by decide) (by decide)) (al_8_j 1 k0 (by decide) (by decide) rfl) g6 (by decide +kernel) ?_
      obtain ⟨g7, e⟩ := gd_inv e
      refine Go.iast hI (kf_8_j 6 k0 (by decide) (by decide)) (al_8_j 6 k0 (by decide) (by decide) rfl) g7 (by decide +kernel) ?_
      obtain ⟨h8, q9, e⟩ := bd_inv e
      refine Go.eqH (Option.some.inj q9) ?_
      refine Go.run (pc' := 54) [.iinc 2 (1)] (ls' := [some (.ref a0), some (.int x1), some (.int (x2 + (1 : Int32)))]) (st' := []) (by decide +kernel) rfl rfl ?_
      refine Go.goto (off := -28) (tgt := 26) (by decide +kernel) (by decide) ?_
      exact ih k0 e
def f_M_save_16  (a0 : Nat) (x1 : Int32) (b0 : Nat) (s1 : Int32) (h : HP) : Option (Int32 × HP) :=
  (f_M_refused h b0 s1).bind fun v1 =>
  if v1.1 = 0 then
    f_M_save_26 4096 a0 x1 (0 : Int32) v1.2
  else
    some ((0 : Int32), v1.2)
set_option maxHeartbeats 1000000 in
theorem x_M_save_16 {l : Launch} {D : va_G} {ad : Nat → Nat} {aC : Nat → ClassId} (hf : l.flags = flags0) (hI : Inj ad) {a0 : Nat} {x1 : Int32} {b0 : Nat} {s1 : Int32} {h : HP} {r : Int32 × HP} (k0 : knd a0 = 8) (kb0 : knd b0 = 8) (e : f_M_save_16 a0 x1 b0 s1 h = some r) : Go l D ad aC (rmk m_M_save) (QM D ad aC m_M_save (.inl (some (.int r.1))) r.2) m_M_save 16 [some (.ref a0), some (.int x1), none] [.int s1, .ref b0] h 0 0 := by
  unfold f_M_save_16 at e
  obtain ⟨v1, e2, e⟩ := bd_inv e
  refine Go.callV (M2 := m_M_refused) (a := b0) (as := [.int s1]) (rest := []) (v := some (.int v1.1)) (h1 := v1.2) (x_M_refused hf hI kb0 e2) wv_M_142 kb0 kc_8 (by decide +kernel) rfl rfl ⟨⟨Nat.le_of_ble_eq_true rfl, Nat.le_of_ble_eq_true rfl⟩, ⟨Nat.le_of_ble_eq_true rfl, Nat.le_of_ble_eq_true rfl⟩⟩ (Nat.le_of_ble_eq_true rfl) ?_
  show Go l D ad aC (rmk m_M_save) _ m_M_save 19 [some (.ref a0), some (.int x1), none] [.int v1.1] v1.2 0 0
  refine Go.if_eq (off := 5) (tgt := 24) (by decide +kernel) (by decide) (fun c3 => ?_) (fun c3 => ?_)
  · replace e := ite_t c3 e
    refine Go.run (pc' := 26) [.iconst 0, .istore_n 2] (ls' := [some (.ref a0), some (.int x1), some (.int (0 : Int32))]) (st' := []) (by decide +kernel) rfl rfl ?_
    exact x_M_save_26 hf hI 4096 k0 e
  · replace e := ite_f c3 e
    refine Go.run (pc' := 23) [.iconst 0] (ls' := [some (.ref a0), some (.int x1), none]) (st' := [.int (0 : Int32)]) (by decide +kernel) rfl rfl ?_
    obtain rfl := Option.some.inj e
    exact Go.iret rfl (by decide) (by decide) (by decide +kernel)
def f_M_save (h : HP) (a0 : Nat) (x1 : Int32) : Option (Int32 × HP) :=
  (f_M_in h x1.toInt64 (0 : Int64) (1 : Int64)).bind fun v1 =>
  if v1 = 0 then
    f_M_save_16 a0 x1 a0 (1 : Int32) h
  else
    f_M_save_16 a0 x1 a0 (0 : Int32) h
set_option maxHeartbeats 1000000 in
theorem x_M_save {l : Launch} {D : va_G} {ad : Nat → Nat} {aC : Nat → ClassId} (hf : l.flags = flags0) (hI : Inj ad) {h : HP} {a0 : Nat} {x1 : Int32} {r : Int32 × HP} (k0 : knd a0 = 8) (e : f_M_save h a0 x1 = some r) : CT l D ad aC m_M_save [.ref a0, .int x1] h (.inl (some (.int r.1))) r.2 := by
  refine CT.ofGo (by decide +kernel) rfl (Nat.le_of_ble_eq_true rfl) ?_
  unfold f_M_save at e
  show Go l D ad aC (rmk m_M_save) _ m_M_save 0 [some (.ref a0), some (.int x1), none] [] h 0 0
  refine Go.run (pc' := 5) [.aload_n 0, .iload_n 1, .i2l, .lconst 0, .lconst 1] (ls' := [some (.ref a0), some (.int x1), none]) (st' := [.long (1 : Int64), .long (0 : Int64), .long x1.toInt64, .ref a0]) (by decide +kernel) rfl rfl ?_
  obtain ⟨v1, e2, e⟩ := bd_inv e
  refine Go.callS (M2 := m_M_in) (as := [.long x1.toInt64, .long (0 : Int64), .long (1 : Int64)]) (rest := [.ref a0]) (v := some (.int v1)) (h1 := h) (x_M_in hf hI  e2) ws_M_51 (by decide +kernel) rfl rfl ⟨⟨Nat.le_of_ble_eq_true rfl, Nat.le_of_ble_eq_true rfl⟩, ⟨Nat.le_of_ble_eq_true rfl, Nat.le_of_ble_eq_true rfl⟩⟩ (Nat.le_of_ble_eq_true rfl) ?_
  show Go l D ad aC (rmk m_M_save) _ m_M_save 8 [some (.ref a0), some (.int x1), none] [.int v1, .ref a0] h 0 0
  refine Go.if_eq (off := 7) (tgt := 15) (by decide +kernel) (by decide) (fun c3 => ?_) (fun c3 => ?_)
  · replace e := ite_t c3 e
    refine Go.run (pc' := 16) [.iconst 1] (ls' := [some (.ref a0), some (.int x1), none]) (st' := [.int (1 : Int32), .ref a0]) (by decide +kernel) rfl rfl ?_
    exact x_M_save_16 hf hI k0 k0 e
  · replace e := ite_f c3 e
    refine Go.run (pc' := 12) [.iconst 0] (ls' := [some (.ref a0), some (.int x1), none]) (st' := [.int (0 : Int32), .ref a0]) (by decide +kernel) rfl rfl ?_
    refine Go.goto (off := 4) (tgt := 16) (by decide +kernel) (by decide) ?_
    exact x_M_save_16 hf hI k0 k0 e
def f_M_restore_39  : Nat → Nat → Int32 → Int32 → HP → Option (Int32 × HP)
  | 0, _, _, _, _ => none
  | n + 1, a0, x1, x2, h =>
    if (196 : Int32) ≤ x2 then
      (some (hset h a0 5 (0 : Int32))).bind fun h2 =>
      if ib (186 : Int32) 196 = true then
      some (h2 (fld a0 1) (186 : Int32).toNatClampNeg, h2)
      else none
    else
      if ib (((196 : Int32) * x1) + x2) 392 = true then
      if ib x2 196 = true then
      (some (hset h (fld a0 1) x2.toNatClampNeg (h (fld a0 6) (((196 : Int32) * x1) + x2).toNatClampNeg))).bind fun h7 =>
      f_M_restore_39 n a0 x1 (x2 + (1 : Int32)) h7
      else none
      else none
set_option maxHeartbeats 1000000 in
theorem x_M_restore_39 {l : Launch} {D : va_G} {ad : Nat → Nat} {aC : Nat → ClassId} (hf : l.flags = flags0) (hI : Inj ad) : ∀ (n : Nat) {a0 : Nat} {x1 : Int32} {x2 : Int32} {h : HP} {r : Int32 × HP}, knd a0 = 8 → f_M_restore_39 n a0 x1 x2 h = some r → Go l D ad aC (rmk m_M_restore) (QM D ad aC m_M_restore (.inl (some (.int r.1))) r.2) m_M_restore 39 [some (.ref a0), some (.int x1), some (.int x2)] [] h 0 0 := by
  intro n
  induction n with
  | zero => intro a0 x1 x2 h r k0 e; exact no_none e
  | succ n ih =>
    intro a0 x1 x2 h r k0 e
    rw [f_M_restore_39] at e
    refine Go.run (pc' := 43) [.iload_n 2, .sipush (196)] (ls' := [some (.ref a0), some (.int x1), some (.int x2)]) (st' := [.int (196 : Int32), .int x2]) (by decide +kernel) rfl rfl ?_
    refine Go.ic_ge (off := 27) (tgt := 70) (by decide +kernel) (by decide) (fun c1 => ?_) (fun c1 => ?_)
    · replace e := ite_t c1 e
      refine Go.run (pc' := 72) [.aload_n 0, .iconst 0] (ls' := [some (.ref a0), some (.int x1), some (.int x2)]) (st' := [.int (0 : Int32), .ref a0]) (by decide +kernel) rfl rfl ?_
      refine Go.put hI po_M_134 k0 (nar_i _) (fit_i _) (by decide +kernel) ?_
      obtain ⟨h2, q3, e⟩ := bd_inv e
      refine Go.eqH (Option.some.inj q3) ?_
      refine Go.run (pc' := 76) [.aload_n 0] (ls' := [some (.ref a0), some (.int x1), some (.int x2)]) (st' := [.ref a0]) (by decide +kernel) rfl rfl ?_
      refine Go.getR fo_M_7 k0 (by decide +kernel) ?_
      refine Go.run (pc' := 82) [.sipush (186)] (ls' := [some (.ref a0), some (.int x1), some (.int x2)]) (st' := [.int (186 : Int32), .ref (fld a0 1)]) (by decide +kernel) rfl rfl ?_
      obtain ⟨g4, e⟩ := gd_inv e
      refine Go.iald (kf_8_j 1 k0 (by decide) (by decide)) (al_8_j 1 k0 (by decide) (by decide) rfl) g4 (by decide +kernel) ?_
      obtain rfl := Option.some.inj e
      exact Go.iret rfl (by decide) (by decide) (by decide +kernel)
    · replace e := ite_f c1 e
      refine Go.run (pc' := 47) [.aload_n 0] (ls' := [some (.ref a0), some (.int x1), some (.int x2)]) (st' := [.ref a0]) (by decide +kernel) rfl rfl ?_
      refine Go.getR fo_M_7 k0 (by decide +kernel) ?_
      refine Go.run (pc' := 52) [.iload_n 2, .aload_n 0] (ls' := [some (.ref a0), some (.int x1), some (.int x2)]) (st' := [.ref a0, .int x2, .ref (fld a0 1)]) (by decide +kernel) rfl rfl ?_
      refine Go.getR fo_M_22 k0 (by decide +kernel) ?_
      refine Go.run (pc' := 62) [.sipush (196), .iload_n 1, .imul, .iload_n 2, .iadd] (ls' := [some (.ref a0), some (.int x1), some (.int x2)]) (st' := [.int (((196 : Int32) * x1) + x2), .ref (fld a0 6), .int x2, .ref (fld a0 1)]) (by decide +kernel) rfl rfl ?_
      obtain ⟨g5, e⟩ := gd_inv e
      refine Go.iald (kf_8_j 6 k0 (by decide) (by decide)) (al_8_j 6 k0 (by decide) (by decide) rfl) g5 (by decide +kernel) ?_
      obtain ⟨g6, e⟩ := gd_inv e
      refine Go.iast hI (kf_8_j 1 k0 (by decide) (by decide)) (al_8_j 1 k0 (by decide) (by decide) rfl) g6 (by decide +kernel) ?_
      obtain ⟨h7, q8, e⟩ := bd_inv e
      refine Go.eqH (Option.some.inj q8) ?_
      refine Go.run (pc' := 67) [.iinc 2 (1)] (ls' := [some (.ref a0), some (.int x1), some (.int (x2 + (1 : Int32)))]) (st' := []) (by decide +kernel) rfl rfl ?_
      refine Go.goto (off := -28) (tgt := 39) (by decide +kernel) (by decide) ?_
      exact ih k0 e
def f_M_restore_29  (a0 : Nat) (x1 : Int32) (b0 : Nat) (s1 : Int32) (h : HP) : Option (Int32 × HP) :=
  (f_M_refused h b0 s1).bind fun v1 =>
  if v1.1 = 0 then
    f_M_restore_39 4096 a0 x1 (0 : Int32) v1.2
  else
    some ((0 : Int32), v1.2)
set_option maxHeartbeats 1000000 in
theorem x_M_restore_29 {l : Launch} {D : va_G} {ad : Nat → Nat} {aC : Nat → ClassId} (hf : l.flags = flags0) (hI : Inj ad) {a0 : Nat} {x1 : Int32} {b0 : Nat} {s1 : Int32} {h : HP} {r : Int32 × HP} (k0 : knd a0 = 8) (kb0 : knd b0 = 8) (e : f_M_restore_29 a0 x1 b0 s1 h = some r) : Go l D ad aC (rmk m_M_restore) (QM D ad aC m_M_restore (.inl (some (.int r.1))) r.2) m_M_restore 29 [some (.ref a0), some (.int x1), none] [.int s1, .ref b0] h 0 0 := by
  unfold f_M_restore_29 at e
  obtain ⟨v1, e2, e⟩ := bd_inv e
  refine Go.callV (M2 := m_M_refused) (a := b0) (as := [.int s1]) (rest := []) (v := some (.int v1.1)) (h1 := v1.2) (x_M_refused hf hI kb0 e2) wv_M_142 kb0 kc_8 (by decide +kernel) rfl rfl ⟨⟨Nat.le_of_ble_eq_true rfl, Nat.le_of_ble_eq_true rfl⟩, ⟨Nat.le_of_ble_eq_true rfl, Nat.le_of_ble_eq_true rfl⟩⟩ (Nat.le_of_ble_eq_true rfl) ?_
  show Go l D ad aC (rmk m_M_restore) _ m_M_restore 32 [some (.ref a0), some (.int x1), none] [.int v1.1] v1.2 0 0
  refine Go.if_eq (off := 5) (tgt := 37) (by decide +kernel) (by decide) (fun c3 => ?_) (fun c3 => ?_)
  · replace e := ite_t c3 e
    refine Go.run (pc' := 39) [.iconst 0, .istore_n 2] (ls' := [some (.ref a0), some (.int x1), some (.int (0 : Int32))]) (st' := []) (by decide +kernel) rfl rfl ?_
    exact x_M_restore_39 hf hI 4096 k0 e
  · replace e := ite_f c3 e
    refine Go.run (pc' := 36) [.iconst 0] (ls' := [some (.ref a0), some (.int x1), none]) (st' := [.int (0 : Int32)]) (by decide +kernel) rfl rfl ?_
    obtain rfl := Option.some.inj e
    exact Go.iret rfl (by decide) (by decide) (by decide +kernel)
def f_M_restore (h : HP) (a0 : Nat) (x1 : Int32) : Option (Int32 × HP) :=
  (f_M_in h x1.toInt64 (0 : Int64) (1 : Int64)).bind fun v1 =>
  if v1 = 0 then
    f_M_restore_29 a0 x1 a0 (1 : Int32) h
  else
    if ib x1 2 = true then
    if (h (fld a0 7) x1.toNatClampNeg) = 0 then
      f_M_restore_29 a0 x1 a0 (2 : Int32) h
    else
      f_M_restore_29 a0 x1 a0 (0 : Int32) h
    else none
set_option maxHeartbeats 1000000 in
theorem x_M_restore {l : Launch} {D : va_G} {ad : Nat → Nat} {aC : Nat → ClassId} (hf : l.flags = flags0) (hI : Inj ad) {h : HP} {a0 : Nat} {x1 : Int32} {r : Int32 × HP} (k0 : knd a0 = 8) (e : f_M_restore h a0 x1 = some r) : CT l D ad aC m_M_restore [.ref a0, .int x1] h (.inl (some (.int r.1))) r.2 := by
  refine CT.ofGo (by decide +kernel) rfl (Nat.le_of_ble_eq_true rfl) ?_
  unfold f_M_restore at e
  show Go l D ad aC (rmk m_M_restore) _ m_M_restore 0 [some (.ref a0), some (.int x1), none] [] h 0 0
  refine Go.run (pc' := 5) [.aload_n 0, .iload_n 1, .i2l, .lconst 0, .lconst 1] (ls' := [some (.ref a0), some (.int x1), none]) (st' := [.long (1 : Int64), .long (0 : Int64), .long x1.toInt64, .ref a0]) (by decide +kernel) rfl rfl ?_
  obtain ⟨v1, e2, e⟩ := bd_inv e
  refine Go.callS (M2 := m_M_in) (as := [.long x1.toInt64, .long (0 : Int64), .long (1 : Int64)]) (rest := [.ref a0]) (v := some (.int v1)) (h1 := h) (x_M_in hf hI  e2) ws_M_51 (by decide +kernel) rfl rfl ⟨⟨Nat.le_of_ble_eq_true rfl, Nat.le_of_ble_eq_true rfl⟩, ⟨Nat.le_of_ble_eq_true rfl, Nat.le_of_ble_eq_true rfl⟩⟩ (Nat.le_of_ble_eq_true rfl) ?_
  show Go l D ad aC (rmk m_M_restore) _ m_M_restore 8 [some (.ref a0), some (.int x1), none] [.int v1, .ref a0] h 0 0
  refine Go.if_ne (off := 7) (tgt := 15) (by decide +kernel) (by decide) (fun c3 => ?_) (fun c3 => ?_)
  · replace e := ite_f c3 e
    refine Go.run (pc' := 16) [.aload_n 0] (ls' := [some (.ref a0), some (.int x1), none]) (st' := [.ref a0, .ref a0]) (by decide +kernel) rfl rfl ?_
    refine Go.getR fo_M_25 k0 (by decide +kernel) ?_
    refine Go.run (pc' := 20) [.iload_n 1] (ls' := [some (.ref a0), some (.int x1), none]) (st' := [.int x1, .ref (fld a0 7), .ref a0]) (by decide +kernel) rfl rfl ?_
    obtain ⟨g4, e⟩ := gd_inv e
    refine Go.bald (kf_8_7 k0) (al_8_7 k0) g4 (by decide +kernel) ?_
    refine Go.if_ne (off := 7) (tgt := 28) (by decide +kernel) (by decide) (fun c5 => ?_) (fun c5 => ?_)
    · replace e := ite_f c5 e
      refine Go.run (pc' := 29) [.iconst 0] (ls' := [some (.ref a0), some (.int x1), none]) (st' := [.int (0 : Int32), .ref a0]) (by decide +kernel) rfl rfl ?_
      exact x_M_restore_29 hf hI k0 k0 e
    · replace e := ite_t c5 e
      refine Go.run (pc' := 25) [.iconst 2] (ls' := [some (.ref a0), some (.int x1), none]) (st' := [.int (2 : Int32), .ref a0]) (by decide +kernel) rfl rfl ?_
      refine Go.goto (off := 4) (tgt := 29) (by decide +kernel) (by decide) ?_
      exact x_M_restore_29 hf hI k0 k0 e
  · replace e := ite_t c3 e
    refine Go.run (pc' := 12) [.iconst 1] (ls' := [some (.ref a0), some (.int x1), none]) (st' := [.int (1 : Int32), .ref a0]) (by decide +kernel) rfl rfl ?_
    refine Go.goto (off := 17) (tgt := 29) (by decide +kernel) (by decide) ?_
    exact x_M_restore_29 hf hI k0 k0 e
