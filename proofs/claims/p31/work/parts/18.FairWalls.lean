/-! printed by wip/p31/gen.py: what FairWalls compute, and the rows that tie it to the machine -/
def f_F_append_28  (a0 : Nat) (x1 : Int32) (s0 : Int32) (h : HP) : Option (Res × HP) :=
  if s0 = 0 then some (.inr "java/lang/IllegalStateException", h) else
  (f_T_add h (fld a0 4) ((x1.toUInt32 % 65536).toInt32)).bind fun v2 =>
  some (.inl (some (.int v2.1)), v2.2)
set_option maxHeartbeats 1000000 in
theorem x_F_append_28 {l : Launch} {D : va_G} {ad : Nat → Nat} {aC : Nat → ClassId} (hf : l.flags = flags0) (hI : Inj ad) {a0 : Nat} {x1 : Int32} {s0 : Int32} {h : HP} {r : Res × HP} (k0 : knd a0 = 7) (e : f_F_append_28 a0 x1 s0 h = some r) : Go l D ad aC (rmk (mr m_F_append r.1)) (QM D ad aC (mr m_F_append r.1) r.1 r.2) m_F_append 28 [some (.ref a0), some (.int x1)] [.int s0] h 0 0 := by
  unfold f_F_append_28 at e
  rcases Decidable.em (s0 = 0) with c1 | c1
  · replace e := ite_t c1 e
    obtain rfl := Option.some.inj e
    exact Go.mr (res := .inr "java/lang/IllegalStateException") (Go.thrown (M := mr m_F_append (.inr "java/lang/IllegalStateException")) (M2 := mr m_F_needState (.inr "java/lang/IllegalStateException")) (as := [.int s0]) (rest := []) (h1 := h) (by have q := x_F_needState (l := l) (D := D) (ad := ad) (aC := aC) hf (h := h) (b := s0); rw [if_pos c1] at q; exact q) (WS.mr ws_F_56) (by decide +kernel) rfl rfl ⟨⟨Nat.le_of_ble_eq_true rfl, Nat.le_of_ble_eq_true rfl⟩, ⟨Nat.le_of_ble_eq_true rfl, Nat.le_of_ble_eq_true rfl⟩⟩ (Nat.le_of_ble_eq_true rfl) rfl (by decide) (by decide) (by decide))
  replace e := ite_f c1 e
  refine Go.callS (M2 := mr m_F_needState (.inl none)) (as := [.int s0]) (rest := []) (v := none) (h1 := h) (by have q := x_F_needState (l := l) (D := D) (ad := ad) (aC := aC) hf (h := h) (b := s0); rw [if_neg c1] at q; exact q) (WS.mr ws_F_56) (by decide +kernel) rfl rfl ⟨⟨Nat.le_of_ble_eq_true rfl, Nat.le_of_ble_eq_true rfl⟩, ⟨Nat.zero_le _, Nat.zero_le _⟩⟩ (Nat.le_of_ble_eq_true rfl) ?_
  show Go l D ad aC _ _ m_F_append 31 [some (.ref a0), some (.int x1)] [] h 0 0
  refine Go.run (pc' := 32) [.aload_n 0] (ls' := [some (.ref a0), some (.int x1)]) (st' := [.ref a0]) (by decide +kernel) rfl rfl ?_
  refine Go.getR fo_F_36 k0 (by decide +kernel) ?_
  refine Go.run (pc' := 37) [.iload_n 1, .i2c] (ls' := [some (.ref a0), some (.int x1)]) (st' := [.int ((x1.toUInt32 % 65536).toInt32), .ref (fld a0 4)]) (by decide +kernel) rfl rfl ?_
  obtain ⟨v2, e3, e⟩ := bd_inv e
  refine Go.callV (M2 := m_T_add) (a := (fld a0 4)) (as := [.int ((x1.toUInt32 % 65536).toInt32)]) (rest := []) (v := some (.int v2.1)) (h1 := v2.2) (x_T_add hf hI (kf_7_4 k0) e3) wv_F_59 (kf_7_4 k0) kc_2 (by decide +kernel) rfl rfl ⟨⟨Nat.le_of_ble_eq_true rfl, Nat.le_of_ble_eq_true rfl⟩, ⟨Nat.zero_le _, Nat.zero_le _⟩⟩ (Nat.le_of_ble_eq_true rfl) ?_
  show Go l D ad aC _ _ m_F_append 40 [some (.ref a0), some (.int x1)] [.int v2.1] v2.2 0 0
  obtain rfl := Option.some.inj e
  exact Go.iret (M := m_F_append) rfl (by decide) (by decide) (by decide +kernel)
def f_F_append (h : HP) (a0 : Nat) (x1 : Int32) : Option (Res × HP) :=
  (f_F_inRange h x1 (0 : Int32) (255 : Int32)).bind fun v1 =>
  if v1 = 0 then some (.inr "java/lang/IllegalArgumentException", h) else
  (f_T_size h (fld a0 4)).bind fun v4 =>
  if (120 : Int32) ≤ v4 then
    f_F_append_28 a0 x1 (0 : Int32) h
  else
    f_F_append_28 a0 x1 (1 : Int32) h
set_option maxHeartbeats 1000000 in
theorem x_F_append {l : Launch} {D : va_G} {ad : Nat → Nat} {aC : Nat → ClassId} (hf : l.flags = flags0) (hI : Inj ad) {h : HP} {a0 : Nat} {x1 : Int32} {r : Res × HP} (k0 : knd a0 = 7) (e : f_F_append h a0 x1 = some r) : CT l D ad aC (mr m_F_append r.1) [.ref a0, .int x1] h r.1 r.2 := by
  refine CT.ofGoR (by decide +kernel) rfl (Nat.le_of_ble_eq_true rfl) ?_
  unfold f_F_append at e
  show Go l D ad aC _ _ m_F_append 0 [some (.ref a0), some (.int x1)] [] h 0 0
  refine Go.run (pc' := 5) [.iload_n 1, .iconst 0, .sipush (255)] (ls' := [some (.ref a0), some (.int x1)]) (st' := [.int (255 : Int32), .int (0 : Int32), .int x1]) (by decide +kernel) rfl rfl ?_
  obtain ⟨v1, e2, e⟩ := bd_inv e
  refine Go.callS (M2 := m_F_inRange) (as := [.int x1, .int (0 : Int32), .int (255 : Int32)]) (rest := []) (v := some (.int v1)) (h1 := h) (x_F_inRange hf hI  e2) ws_F_44 (by decide +kernel) rfl rfl ⟨⟨Nat.le_of_ble_eq_true rfl, Nat.le_of_ble_eq_true rfl⟩, ⟨Nat.zero_le _, Nat.zero_le _⟩⟩ (Nat.le_of_ble_eq_true rfl) ?_
  show Go l D ad aC _ _ m_F_append 8 [some (.ref a0), some (.int x1)] [.int v1] h 0 0
  rcases Decidable.em (v1 = 0) with c3 | c3
  · replace e := ite_t c3 e
    obtain rfl := Option.some.inj e
    exact Go.mr (res := .inr "java/lang/IllegalArgumentException") (Go.thrown (M := mr m_F_append (.inr "java/lang/IllegalArgumentException")) (M2 := mr m_F_needArgument (.inr "java/lang/IllegalArgumentException")) (as := [.int v1]) (rest := []) (h1 := h) (by have q := x_F_needArgument (l := l) (D := D) (ad := ad) (aC := aC) hf (h := h) (b := v1); rw [if_pos c3] at q; exact q) (WS.mr ws_F_48) (by decide +kernel) rfl rfl ⟨⟨Nat.le_of_ble_eq_true rfl, Nat.le_of_ble_eq_true rfl⟩, ⟨Nat.le_of_ble_eq_true rfl, Nat.le_of_ble_eq_true rfl⟩⟩ (Nat.le_of_ble_eq_true rfl) rfl (by decide) (by decide) (by decide))
  replace e := ite_f c3 e
  refine Go.callS (M2 := mr m_F_needArgument (.inl none)) (as := [.int v1]) (rest := []) (v := none) (h1 := h) (by have q := x_F_needArgument (l := l) (D := D) (ad := ad) (aC := aC) hf (h := h) (b := v1); rw [if_neg c3] at q; exact q) (WS.mr ws_F_48) (by decide +kernel) rfl rfl ⟨⟨Nat.le_of_ble_eq_true rfl, Nat.le_of_ble_eq_true rfl⟩, ⟨Nat.zero_le _, Nat.zero_le _⟩⟩ (Nat.le_of_ble_eq_true rfl) ?_
  show Go l D ad aC _ _ m_F_append 11 [some (.ref a0), some (.int x1)] [] h 0 0
  refine Go.run (pc' := 12) [.aload_n 0] (ls' := [some (.ref a0), some (.int x1)]) (st' := [.ref a0]) (by decide +kernel) rfl rfl ?_
  refine Go.getR fo_F_36 k0 (by decide +kernel) ?_
  obtain ⟨v4, e5, e⟩ := bd_inv e
  refine Go.callV (M2 := m_T_size) (a := (fld a0 4)) (as := []) (rest := []) (v := some (.int v4)) (h1 := h) (x_T_size hf hI (kf_7_4 k0) e5) wv_F_52 (kf_7_4 k0) kc_2 (by decide +kernel) rfl rfl ⟨⟨Nat.le_of_ble_eq_true rfl, Nat.le_of_ble_eq_true rfl⟩, ⟨Nat.zero_le _, Nat.zero_le _⟩⟩ (Nat.le_of_ble_eq_true rfl) ?_
  show Go l D ad aC _ _ m_F_append 18 [some (.ref a0), some (.int x1)] [.int v4] h 0 0
  refine Go.run (pc' := 20) [.bipush (120)] (ls' := [some (.ref a0), some (.int x1)]) (st' := [.int (120 : Int32), .int v4]) (by decide +kernel) rfl rfl ?_
  refine Go.ic_ge (off := 7) (tgt := 27) (by decide +kernel) (by decide) (fun c6 => ?_) (fun c6 => ?_)
  · replace e := ite_t c6 e
    refine Go.run (pc' := 28) [.iconst 0] (ls' := [some (.ref a0), some (.int x1)]) (st' := [.int (0 : Int32)]) (by decide +kernel) rfl rfl ?_
    exact x_F_append_28 hf hI k0 e
  · replace e := ite_f c6 e
    refine Go.run (pc' := 24) [.iconst 1] (ls' := [some (.ref a0), some (.int x1)]) (st' := [.int (1 : Int32)]) (by decide +kernel) rfl rfl ?_
    refine Go.goto (off := 4) (tgt := 28) (by decide +kernel) (by decide) ?_
    exact x_F_append_28 hf hI k0 e
def f_F_clearText (h : HP) (a0 : Nat) : Option (Int32 × HP) :=
  (f_T_empty h (fld a0 4)).bind fun v1 =>
  some (v1.1, v1.2)
set_option maxHeartbeats 1000000 in
theorem x_F_clearText {l : Launch} {D : va_G} {ad : Nat → Nat} {aC : Nat → ClassId} (hf : l.flags = flags0) (hI : Inj ad) {h : HP} {a0 : Nat} {r : Int32 × HP} (k0 : knd a0 = 7) (e : f_F_clearText h a0 = some r) : CT l D ad aC m_F_clearText [.ref a0] h (.inl (some (.int r.1))) r.2 := by
  refine CT.ofGo (by decide +kernel) rfl (Nat.le_of_ble_eq_true rfl) ?_
  unfold f_F_clearText at e
  show Go l D ad aC (rmk m_F_clearText) _ m_F_clearText 0 [some (.ref a0)] [] h 0 0
  refine Go.run (pc' := 1) [.aload_n 0] (ls' := [some (.ref a0)]) (st' := [.ref a0]) (by decide +kernel) rfl rfl ?_
  refine Go.getR fo_F_36 k0 (by decide +kernel) ?_
  obtain ⟨v1, e2, e⟩ := bd_inv e
  refine Go.callV (M2 := m_T_empty) (a := (fld a0 4)) (as := []) (rest := []) (v := some (.int v1.1)) (h1 := v1.2) (x_T_empty hf hI (kf_7_4 k0) e2) wv_F_63 (kf_7_4 k0) kc_2 (by decide +kernel) rfl rfl ⟨⟨Nat.le_of_ble_eq_true rfl, Nat.le_of_ble_eq_true rfl⟩, ⟨Nat.le_of_ble_eq_true rfl, Nat.le_of_ble_eq_true rfl⟩⟩ (Nat.le_of_ble_eq_true rfl) ?_
  show Go l D ad aC (rmk m_F_clearText) _ m_F_clearText 7 [some (.ref a0)] [.int v1.1] v1.2 0 0
  obtain rfl := Option.some.inj e
  exact Go.iret rfl (by decide) (by decide) (by decide +kernel)
def f_F_errorPosition (h : HP) (a0 : Nat) : Option (Int32 × HP) :=
  (f_T_firstError h (fld a0 4)).bind fun v1 =>
  some (v1.1, v1.2)
set_option maxHeartbeats 1000000 in
theorem x_F_errorPosition {l : Launch} {D : va_G} {ad : Nat → Nat} {aC : Nat → ClassId} (hf : l.flags = flags0) (hI : Inj ad) {h : HP} {a0 : Nat} {r : Int32 × HP} (k0 : knd a0 = 7) (e : f_F_errorPosition h a0 = some r) : CT l D ad aC m_F_errorPosition [.ref a0] h (.inl (some (.int r.1))) r.2 := by
  refine CT.ofGo (by decide +kernel) rfl (Nat.le_of_ble_eq_true rfl) ?_
  unfold f_F_errorPosition at e
  show Go l D ad aC (rmk m_F_errorPosition) _ m_F_errorPosition 0 [some (.ref a0)] [] h 0 0
  refine Go.run (pc' := 1) [.aload_n 0] (ls' := [some (.ref a0)]) (st' := [.ref a0]) (by decide +kernel) rfl rfl ?_
  refine Go.getR fo_F_36 k0 (by decide +kernel) ?_
  obtain ⟨v1, e2, e⟩ := bd_inv e
  refine Go.callV (M2 := m_T_firstError) (a := (fld a0 4)) (as := []) (rest := []) (v := some (.int v1.1)) (h1 := v1.2) (x_T_firstError hf hI (kf_7_4 k0) e2) wv_F_66 (kf_7_4 k0) kc_2 (by decide +kernel) rfl rfl ⟨⟨Nat.le_of_ble_eq_true rfl, Nat.le_of_ble_eq_true rfl⟩, ⟨Nat.le_of_ble_eq_true rfl, Nat.le_of_ble_eq_true rfl⟩⟩ (Nat.le_of_ble_eq_true rfl) ?_
  show Go l D ad aC (rmk m_F_errorPosition) _ m_F_errorPosition 7 [some (.ref a0)] [.int v1.1] v1.2 0 0
  obtain rfl := Option.some.inj e
  exact Go.iret rfl (by decide) (by decide) (by decide +kernel)
def f_F_load_84 (k51_ : Nat → Int32 → Int32 → HP → Option (Res × HP)) (a0 : Nat) (x1 : Int32) (x2 : Int32) (h : HP) : Option (Res × HP) :=
  k51_ a0 x1 (x2 + (1 : Int32)) h
set_option maxHeartbeats 1000000 in
theorem x_F_load_84 {l : Launch} {D : va_G} {ad : Nat → Nat} {aC : Nat → ClassId} (hf : l.flags = flags0) (hI : Inj ad) {k51_ : Nat → Int32 → Int32 → HP → Option (Res × HP)} (K51_ : ∀ {a0 : Nat} {x1 : Int32} {x2 : Int32} {h : HP} {r : Res × HP}, knd a0 = 7 → k51_ a0 x1 x2 h = some r → Go l D ad aC (rmk (mr m_F_load r.1)) (QM D ad aC (mr m_F_load r.1) r.1 r.2) m_F_load 51 [some (.ref a0), some (.int x1), some (.int x2)] [] h 0 0) {a0 : Nat} {x1 : Int32} {x2 : Int32} {h : HP} {r : Res × HP} (k0 : knd a0 = 7) (e : f_F_load_84 k51_ a0 x1 x2 h = some r) : Go l D ad aC (rmk (mr m_F_load r.1)) (QM D ad aC (mr m_F_load r.1) r.1 r.2) m_F_load 84 [some (.ref a0), some (.int x1), some (.int x2)] [] h 0 0 := by
  unfold f_F_load_84 at e
  refine Go.run (pc' := 87) [.iinc 2 (1)] (ls' := [some (.ref a0), some (.int x1), some (.int (x2 + (1 : Int32)))]) (st' := []) (by decide +kernel) rfl rfl ?_
  refine Go.goto (off := -36) (tgt := 51) (by decide +kernel) (by decide) ?_
  exact K51_ k0 e
def f_F_load_51  : Nat → Nat → Int32 → Int32 → HP → Option (Res × HP)
  | 0, _, _, _, _ => none
  | n + 1, a0, x1, x2, h =>
    if (120 : Int32) ≤ x2 then
      some (.inl (some (.int x1)), h)
    else
      (f_T_readCommand h (fld a0 4)).bind fun v2 =>
      if v2.1 = 0 then
        some (.inl (some (.int x1)), v2.2)
      else
        (f_C_obeyCommand v2.2 (fld a0 0) (fld a0 4)).bind fun v5 =>
        if v5.1 = 0 then
          f_F_load_84 (f_F_load_51 n) a0 (x1 + (1 : Int32)) x2 v5.2
        else
          f_F_load_84 (f_F_load_51 n) a0 x1 x2 v5.2
set_option maxHeartbeats 1000000 in
theorem x_F_load_51 {l : Launch} {D : va_G} {ad : Nat → Nat} {aC : Nat → ClassId} (hf : l.flags = flags0) (hI : Inj ad) : ∀ (n : Nat) {a0 : Nat} {x1 : Int32} {x2 : Int32} {h : HP} {r : Res × HP}, knd a0 = 7 → f_F_load_51 n a0 x1 x2 h = some r → Go l D ad aC (rmk (mr m_F_load r.1)) (QM D ad aC (mr m_F_load r.1) r.1 r.2) m_F_load 51 [some (.ref a0), some (.int x1), some (.int x2)] [] h 0 0 := by
  intro n
  induction n with
  | zero => intro a0 x1 x2 h r k0 e; exact no_none e
  | succ n ih =>
    intro a0 x1 x2 h r k0 e
    rw [f_F_load_51] at e
    refine Go.run (pc' := 54) [.iload_n 2, .bipush (120)] (ls' := [some (.ref a0), some (.int x1), some (.int x2)]) (st' := [.int (120 : Int32), .int x2]) (by decide +kernel) rfl rfl ?_
    refine Go.ic_ge (off := 36) (tgt := 90) (by decide +kernel) (by decide) (fun c1 => ?_) (fun c1 => ?_)
    · replace e := ite_t c1 e
      refine Go.run (pc' := 91) [.iload_n 1] (ls' := [some (.ref a0), some (.int x1), some (.int x2)]) (st' := [.int x1]) (by decide +kernel) rfl rfl ?_
      obtain rfl := Option.some.inj e
      exact Go.iret (M := m_F_load) rfl (by decide) (by decide) (by decide +kernel)
    · replace e := ite_f c1 e
      refine Go.run (pc' := 58) [.aload_n 0] (ls' := [some (.ref a0), some (.int x1), some (.int x2)]) (st' := [.ref a0]) (by decide +kernel) rfl rfl ?_
      refine Go.getR fo_F_36 k0 (by decide +kernel) ?_
      obtain ⟨v2, e3, e⟩ := bd_inv e
      refine Go.callV (M2 := m_T_readCommand) (a := (fld a0 4)) (as := []) (rest := []) (v := some (.int v2.1)) (h1 := v2.2) (x_T_readCommand hf hI (kf_7_4 k0) e3) wv_F_79 (kf_7_4 k0) kc_2 (by decide +kernel) rfl rfl ⟨⟨Nat.le_of_ble_eq_true rfl, Nat.le_of_ble_eq_true rfl⟩, ⟨Nat.zero_le _, Nat.zero_le _⟩⟩ (Nat.le_of_ble_eq_true rfl) ?_
      show Go l D ad aC _ _ m_F_load 64 [some (.ref a0), some (.int x1), some (.int x2)] [.int v2.1] v2.2 0 0
      refine Go.if_eq (off := 26) (tgt := 90) (by decide +kernel) (by decide) (fun c4 => ?_) (fun c4 => ?_)
      · replace e := ite_t c4 e
        refine Go.run (pc' := 91) [.iload_n 1] (ls' := [some (.ref a0), some (.int x1), some (.int x2)]) (st' := [.int x1]) (by decide +kernel) rfl rfl ?_
        obtain rfl := Option.some.inj e
        exact Go.iret (M := m_F_load) rfl (by decide) (by decide) (by decide +kernel)
      · replace e := ite_f c4 e
        refine Go.run (pc' := 68) [.aload_n 0] (ls' := [some (.ref a0), some (.int x1), some (.int x2)]) (st' := [.ref a0]) (by decide +kernel) rfl rfl ?_
        refine Go.getR fo_F_10 k0 (by decide +kernel) ?_
        refine Go.run (pc' := 72) [.aload_n 0] (ls' := [some (.ref a0), some (.int x1), some (.int x2)]) (st' := [.ref a0, .ref (fld a0 0)]) (by decide +kernel) rfl rfl ?_
        refine Go.getR fo_F_36 k0 (by decide +kernel) ?_
        obtain ⟨v5, e6, e⟩ := bd_inv e
        refine Go.callS (M2 := m_C_obeyCommand) (as := [.ref (fld a0 0), .ref (fld a0 4)]) (rest := []) (v := some (.int v5.1)) (h1 := v5.2) (x_C_obeyCommand hf hI (kf_7_0 k0) (kf_7_4 k0) e6) ws_F_83 (by decide +kernel) rfl rfl ⟨⟨Nat.le_of_ble_eq_true rfl, Nat.le_of_ble_eq_true rfl⟩, ⟨Nat.zero_le _, Nat.zero_le _⟩⟩ (Nat.le_of_ble_eq_true rfl) ?_
        show Go l D ad aC _ _ m_F_load 78 [some (.ref a0), some (.int x1), some (.int x2)] [.int v5.1] v5.2 0 0
        refine Go.if_ne (off := 6) (tgt := 84) (by decide +kernel) (by decide) (fun c7 => ?_) (fun c7 => ?_)
        · replace e := ite_f c7 e
          exact x_F_load_84 hf hI (fun kk0 e => ih kk0 e) k0 e
        · replace e := ite_t c7 e
          refine Go.run (pc' := 84) [.iinc 1 (1)] (ls' := [some (.ref a0), some (.int (x1 + (1 : Int32))), some (.int x2)]) (st' := []) (by decide +kernel) rfl rfl ?_
          exact x_F_load_84 hf hI (fun kk0 e => ih kk0 e) k0 e
def f_F_load_16  (a0 : Nat) (s0 : Int32) (h : HP) : Option (Res × HP) :=
  if s0 = 0 then some (.inr "java/lang/IllegalStateException", h) else
  (f_A_startAnew h (fld a0 0)).bind fun v2 =>
  (f_P_forget v2 (fld a0 2)).bind fun v4 =>
  (f_L_forget v4 (fld a0 3)).bind fun v6 =>
  (f_T_goToCommands v6 (fld a0 4)).bind fun v8 =>
  f_F_load_51 4096 a0 (0 : Int32) (0 : Int32) v8
set_option maxHeartbeats 1000000 in
theorem x_F_load_16 {l : Launch} {D : va_G} {ad : Nat → Nat} {aC : Nat → ClassId} (hf : l.flags = flags0) (hI : Inj ad) {a0 : Nat} {s0 : Int32} {h : HP} {r : Res × HP} (k0 : knd a0 = 7) (e : f_F_load_16 a0 s0 h = some r) : Go l D ad aC (rmk (mr m_F_load r.1)) (QM D ad aC (mr m_F_load r.1) r.1 r.2) m_F_load 16 [some (.ref a0), none, none] [.int s0] h 0 0 := by
  unfold f_F_load_16 at e
  rcases Decidable.em (s0 = 0) with c1 | c1
  · replace e := ite_t c1 e
    obtain rfl := Option.some.inj e
    exact Go.mr (res := .inr "java/lang/IllegalStateException") (Go.thrown (M := mr m_F_load (.inr "java/lang/IllegalStateException")) (M2 := mr m_F_needState (.inr "java/lang/IllegalStateException")) (as := [.int s0]) (rest := []) (h1 := h) (by have q := x_F_needState (l := l) (D := D) (ad := ad) (aC := aC) hf (h := h) (b := s0); rw [if_pos c1] at q; exact q) (WS.mr ws_F_56) (by decide +kernel) rfl rfl ⟨⟨Nat.le_of_ble_eq_true rfl, Nat.le_of_ble_eq_true rfl⟩, ⟨Nat.le_of_ble_eq_true rfl, Nat.le_of_ble_eq_true rfl⟩⟩ (Nat.le_of_ble_eq_true rfl) rfl (by decide) (by decide) (by decide))
  replace e := ite_f c1 e
  refine Go.callS (M2 := mr m_F_needState (.inl none)) (as := [.int s0]) (rest := []) (v := none) (h1 := h) (by have q := x_F_needState (l := l) (D := D) (ad := ad) (aC := aC) hf (h := h) (b := s0); rw [if_neg c1] at q; exact q) (WS.mr ws_F_56) (by decide +kernel) rfl rfl ⟨⟨Nat.le_of_ble_eq_true rfl, Nat.le_of_ble_eq_true rfl⟩, ⟨Nat.zero_le _, Nat.zero_le _⟩⟩ (Nat.le_of_ble_eq_true rfl) ?_
  show Go l D ad aC _ _ m_F_load 19 [some (.ref a0), none, none] [] h 0 0
  refine Go.run (pc' := 20) [.aload_n 0] (ls' := [some (.ref a0), none, none]) (st' := [.ref a0]) (by decide +kernel) rfl rfl ?_
  refine Go.getR fo_F_10 k0 (by decide +kernel) ?_
  obtain ⟨v2, e3, e⟩ := bd_inv e
  refine Go.callV (M2 := m_A_startAnew) (a := (fld a0 0)) (as := []) (rest := []) (v := none) (h1 := v2) (x_A_startAnew hf hI (kf_7_0 k0) e3) wv_F_69 (kf_7_0 k0) kc_1 (by decide +kernel) rfl rfl ⟨⟨Nat.le_of_ble_eq_true rfl, Nat.le_of_ble_eq_true rfl⟩, ⟨Nat.zero_le _, Nat.zero_le _⟩⟩ (Nat.le_of_ble_eq_true rfl) ?_
  show Go l D ad aC _ _ m_F_load 26 [some (.ref a0), none, none] [] v2 0 0
  refine Go.run (pc' := 27) [.aload_n 0] (ls' := [some (.ref a0), none, none]) (st' := [.ref a0]) (by decide +kernel) rfl rfl ?_
  refine Go.getR fo_F_22 k0 (by decide +kernel) ?_
  obtain ⟨v4, e5, e⟩ := bd_inv e
  refine Go.callV (M2 := m_P_forget) (a := (fld a0 2)) (as := []) (rest := []) (v := none) (h1 := v4) (x_P_forget hf hI (kf_7_2 k0) e5) wv_F_72 (kf_7_2 k0) kc_3 (by decide +kernel) rfl rfl ⟨⟨Nat.le_of_ble_eq_true rfl, Nat.le_of_ble_eq_true rfl⟩, ⟨Nat.zero_le _, Nat.zero_le _⟩⟩ (Nat.le_of_ble_eq_true rfl) ?_
  show Go l D ad aC _ _ m_F_load 33 [some (.ref a0), none, none] [] v4 0 0
  refine Go.run (pc' := 34) [.aload_n 0] (ls' := [some (.ref a0), none, none]) (st' := [.ref a0]) (by decide +kernel) rfl rfl ?_
  refine Go.getR fo_F_29 k0 (by decide +kernel) ?_
  obtain ⟨v6, e7, e⟩ := bd_inv e
  refine Go.callV (M2 := m_L_forget) (a := (fld a0 3)) (as := []) (rest := []) (v := none) (h1 := v6) (x_L_forget hf hI (kf_7_3 k0) e7) wv_F_75 (kf_7_3 k0) kc_5 (by decide +kernel) rfl rfl ⟨⟨Nat.le_of_ble_eq_true rfl, Nat.le_of_ble_eq_true rfl⟩, ⟨Nat.zero_le _, Nat.zero_le _⟩⟩ (Nat.le_of_ble_eq_true rfl) ?_
  show Go l D ad aC _ _ m_F_load 40 [some (.ref a0), none, none] [] v6 0 0
  refine Go.run (pc' := 43) [.iconst 0, .istore_n 1, .aload_n 0] (ls' := [some (.ref a0), some (.int (0 : Int32)), none]) (st' := [.ref a0]) (by decide +kernel) rfl rfl ?_
  refine Go.getR fo_F_36 k0 (by decide +kernel) ?_
  obtain ⟨v8, e9, e⟩ := bd_inv e
  refine Go.callV (M2 := m_T_goToCommands) (a := (fld a0 4)) (as := []) (rest := []) (v := none) (h1 := v8) (x_T_goToCommands hf hI (kf_7_4 k0) e9) wv_F_76 (kf_7_4 k0) kc_2 (by decide +kernel) rfl rfl ⟨⟨Nat.le_of_ble_eq_true rfl, Nat.le_of_ble_eq_true rfl⟩, ⟨Nat.zero_le _, Nat.zero_le _⟩⟩ (Nat.le_of_ble_eq_true rfl) ?_
  show Go l D ad aC _ _ m_F_load 49 [some (.ref a0), some (.int (0 : Int32)), none] [] v8 0 0
  refine Go.run (pc' := 51) [.iconst 0, .istore_n 2] (ls' := [some (.ref a0), some (.int (0 : Int32)), some (.int (0 : Int32))]) (st' := []) (by decide +kernel) rfl rfl ?_
  exact x_F_load_51 hf hI 4096 k0 e
def f_F_load (h : HP) (a0 : Nat) : Option (Res × HP) :=
  (f_T_firstError h (fld a0 4)).bind fun v1 =>
  if v1.1 = (-1 : Int32) then
    f_F_load_16 a0 (1 : Int32) v1.2
  else
    f_F_load_16 a0 (0 : Int32) v1.2
set_option maxHeartbeats 1000000 in
theorem x_F_load {l : Launch} {D : va_G} {ad : Nat → Nat} {aC : Nat → ClassId} (hf : l.flags = flags0) (hI : Inj ad) {h : HP} {a0 : Nat} {r : Res × HP} (k0 : knd a0 = 7) (e : f_F_load h a0 = some r) : CT l D ad aC (mr m_F_load r.1) [.ref a0] h r.1 r.2 := by
  refine CT.ofGoR (by decide +kernel) rfl (Nat.le_of_ble_eq_true rfl) ?_
  unfold f_F_load at e
  show Go l D ad aC _ _ m_F_load 0 [some (.ref a0), none, none] [] h 0 0
  refine Go.run (pc' := 1) [.aload_n 0] (ls' := [some (.ref a0), none, none]) (st' := [.ref a0]) (by decide +kernel) rfl rfl ?_
  refine Go.getR fo_F_36 k0 (by decide +kernel) ?_
  obtain ⟨v1, e2, e⟩ := bd_inv e
  refine Go.callV (M2 := m_T_firstError) (a := (fld a0 4)) (as := []) (rest := []) (v := some (.int v1.1)) (h1 := v1.2) (x_T_firstError hf hI (kf_7_4 k0) e2) wv_F_66 (kf_7_4 k0) kc_2 (by decide +kernel) rfl rfl ⟨⟨Nat.le_of_ble_eq_true rfl, Nat.le_of_ble_eq_true rfl⟩, ⟨Nat.zero_le _, Nat.zero_le _⟩⟩ (Nat.le_of_ble_eq_true rfl) ?_
  show Go l D ad aC _ _ m_F_load 7 [some (.ref a0), none, none] [.int v1.1] v1.2 0 0
  refine Go.run (pc' := 8) [.iconst (-1)] (ls' := [some (.ref a0), none, none]) (st' := [.int (-1 : Int32), .int v1.1]) (by decide +kernel) rfl rfl ?_
  refine Go.ic_ne (off := 7) (tgt := 15) (by decide +kernel) (by decide) (fun c3 => ?_) (fun c3 => ?_)
  · replace e := ite_f c3 e
    refine Go.run (pc' := 16) [.iconst 0] (ls' := [some (.ref a0), none, none]) (st' := [.int (0 : Int32)]) (by decide +kernel) rfl rfl ?_
    exact x_F_load_16 hf hI k0 e
  · replace e := ite_t c3 e
    refine Go.run (pc' := 12) [.iconst 1] (ls' := [some (.ref a0), none, none]) (st' := [.int (1 : Int32)]) (by decide +kernel) rfl rfl ?_
    refine Go.goto (off := 4) (tgt := 16) (by decide +kernel) (by decide) ?_
    exact x_F_load_16 hf hI k0 e
def f_F_about (h : HP) (a0 : Nat) (x1 : Int32) : Option (Res × HP) :=
  (f_F_inRange h x1 (0 : Int32) (13 : Int32)).bind fun v1 =>
  if v1 = 0 then some (.inr "java/lang/IllegalArgumentException", h) else
  if x1 = 0 then
    some (.inl (some (.int (h (fld (fld a0 0) 0) 9))), h)
  else
    if x1 = 1 then
      some (.inl (some (.int (h (fld (fld a0 0) 0) 10))), h)
    else
      if x1 = 2 then
        (f_A_standing h (fld a0 0)).bind fun v7 =>
        some (.inl (some (.int v7)), h)
      else
        if x1 = 3 then
          (f_A_allMetres h (fld a0 0)).bind fun v10 =>
          some (.inl (some (.int v10)), h)
        else
          if x1 = 4 then
            (f_A_allFreeMetres h (fld a0 0)).bind fun v13 =>
            some (.inl (some (.int v13)), h)
          else
            if x1 = 5 then
              (f_A_allPlugs h (fld a0 0)).bind fun v16 =>
              some (.inl (some (.int v16)), h)
            else
              if x1 = 6 then
                (f_A_allPlugsHad h (fld a0 0)).bind fun v19 =>
                some (.inl (some (.int v19)), h)
              else
                if x1 = 7 then
                  (f_A_allPlugsLacking h (fld a0 0)).bind fun v22 =>
                  some (.inl (some (.int v22)), h)
                else
                  if x1 = 8 then
                    (f_A_rents h (fld a0 0)).bind fun v25 =>
                    some (.inl (some (.int v25)), h)
                  else
                    if x1 = 9 then
                      (f_A_allOwed h (fld a0 0)).bind fun v28 =>
                      some (.inl (some (.int v28)), h)
                    else
                      if x1 = 10 then
                        some (.inl (some (.int (h (fld (fld a0 0) 0) 11))), h)
                      else
                        if x1 = 11 then
                          some (.inl (some (.int (h (fld (fld a0 0) 0) 12))), h)
                        else
                          if x1 = 12 then
                            some (.inl (some (.int (h (fld (fld a0 0) 0) 13))), h)
                          else
                            (f_A_rivalPairs h (fld a0 0)).bind fun v33 =>
                            some (.inl (some (.int v33)), h)
set_option maxHeartbeats 1000000 in
theorem x_F_about {l : Launch} {D : va_G} {ad : Nat → Nat} {aC : Nat → ClassId} (hf : l.flags = flags0) (hI : Inj ad) {h : HP} {a0 : Nat} {x1 : Int32} {r : Res × HP} (k0 : knd a0 = 7) (e : f_F_about h a0 x1 = some r) : CT l D ad aC (mr m_F_about r.1) [.ref a0, .int x1] h r.1 r.2 := by
  refine CT.ofGoR (by decide +kernel) rfl (Nat.le_of_ble_eq_true rfl) ?_
  unfold f_F_about at e
  show Go l D ad aC _ _ m_F_about 0 [some (.ref a0), some (.int x1), none] [] h 0 0
  refine Go.run (pc' := 4) [.iload_n 1, .iconst 0, .bipush (13)] (ls' := [some (.ref a0), some (.int x1), none]) (st' := [.int (13 : Int32), .int (0 : Int32), .int x1]) (by decide +kernel) rfl rfl ?_
  obtain ⟨v1, e2, e⟩ := bd_inv e
  refine Go.callS (M2 := m_F_inRange) (as := [.int x1, .int (0 : Int32), .int (13 : Int32)]) (rest := []) (v := some (.int v1)) (h1 := h) (x_F_inRange hf hI  e2) ws_F_44 (by decide +kernel) rfl rfl ⟨⟨Nat.le_of_ble_eq_true rfl, Nat.le_of_ble_eq_true rfl⟩, ⟨Nat.zero_le _, Nat.zero_le _⟩⟩ (Nat.le_of_ble_eq_true rfl) ?_
  show Go l D ad aC _ _ m_F_about 7 [some (.ref a0), some (.int x1), none] [.int v1] h 0 0
  rcases Decidable.em (v1 = 0) with c3 | c3
  · replace e := ite_t c3 e
    obtain rfl := Option.some.inj e
    exact Go.mr (res := .inr "java/lang/IllegalArgumentException") (Go.thrown (M := mr m_F_about (.inr "java/lang/IllegalArgumentException")) (M2 := mr m_F_needArgument (.inr "java/lang/IllegalArgumentException")) (as := [.int v1]) (rest := []) (h1 := h) (by have q := x_F_needArgument (l := l) (D := D) (ad := ad) (aC := aC) hf (h := h) (b := v1); rw [if_pos c3] at q; exact q) (WS.mr ws_F_48) (by decide +kernel) rfl rfl ⟨⟨Nat.le_of_ble_eq_true rfl, Nat.le_of_ble_eq_true rfl⟩, ⟨Nat.le_of_ble_eq_true rfl, Nat.le_of_ble_eq_true rfl⟩⟩ (Nat.le_of_ble_eq_true rfl) rfl (by decide) (by decide) (by decide))
  replace e := ite_f c3 e
  refine Go.callS (M2 := mr m_F_needArgument (.inl none)) (as := [.int v1]) (rest := []) (v := none) (h1 := h) (by have q := x_F_needArgument (l := l) (D := D) (ad := ad) (aC := aC) hf (h := h) (b := v1); rw [if_neg c3] at q; exact q) (WS.mr ws_F_48) (by decide +kernel) rfl rfl ⟨⟨Nat.le_of_ble_eq_true rfl, Nat.le_of_ble_eq_true rfl⟩, ⟨Nat.zero_le _, Nat.zero_le _⟩⟩ (Nat.le_of_ble_eq_true rfl) ?_
  show Go l D ad aC _ _ m_F_about 10 [some (.ref a0), some (.int x1), none] [] h 0 0
  refine Go.run (pc' := 11) [.aload_n 0] (ls' := [some (.ref a0), some (.int x1), none]) (st' := [.ref a0]) (by decide +kernel) rfl rfl ?_
  refine Go.getR fo_F_10 k0 (by decide +kernel) ?_
  refine Go.getR fo_F_89 (kf_7_0 k0) (by decide +kernel) ?_
  refine Go.run (pc' := 19) [.astore_n 2, .iload_n 1] (ls' := [some (.ref a0), some (.int x1), some (.ref (fld (fld a0 0) 0))]) (st' := [.int x1]) (by decide +kernel) rfl rfl ?_
  rcases Decidable.em (x1 = 0) with c4 | c4
  · replace e := ite_t c4 e
    refine Go.tsIn (dflt := 154) (lo := 0) (hi := 12) (offs := #[65, 70, 75, 83, 91, 99, 107, 115, 123, 131, 139, 144, 149]) (len := 65) (off := 65) (tgt := 84) 0 (by decide +kernel) (by rw [c4]; decide) (by decide) (by decide) (by decide) (by decide) ?_
    refine Go.run (pc' := 85) [.aload_n 2] (ls' := [some (.ref a0), some (.int x1), some (.ref (fld (fld a0 0) 0))]) (st' := [.ref (fld (fld a0 0) 0)]) (by decide +kernel) rfl rfl ?_
    refine Go.getI fo_F_93 (kf_1_0 (kf_7_0 k0)) (by decide +kernel) ?_
    obtain rfl := Option.some.inj e
    exact Go.iret (M := m_F_about) rfl (by decide) (by decide) (by decide +kernel)
  replace e := ite_f c4 e
  rcases Decidable.em (x1 = 1) with c5 | c5
  · replace e := ite_t c5 e
    refine Go.tsIn (dflt := 154) (lo := 0) (hi := 12) (offs := #[65, 70, 75, 83, 91, 99, 107, 115, 123, 131, 139, 144, 149]) (len := 65) (off := 70) (tgt := 89) 1 (by decide +kernel) (by rw [c5]; decide) (by decide) (by decide) (by decide) (by decide) ?_
    refine Go.run (pc' := 90) [.aload_n 2] (ls' := [some (.ref a0), some (.int x1), some (.ref (fld (fld a0 0) 0))]) (st' := [.ref (fld (fld a0 0) 0)]) (by decide +kernel) rfl rfl ?_
    refine Go.getI fo_F_99 (kf_1_0 (kf_7_0 k0)) (by decide +kernel) ?_
    obtain rfl := Option.some.inj e
    exact Go.iret (M := m_F_about) rfl (by decide) (by decide) (by decide +kernel)
  replace e := ite_f c5 e
  rcases Decidable.em (x1 = 2) with c6 | c6
  · replace e := ite_t c6 e
    refine Go.tsIn (dflt := 154) (lo := 0) (hi := 12) (offs := #[65, 70, 75, 83, 91, 99, 107, 115, 123, 131, 139, 144, 149]) (len := 65) (off := 75) (tgt := 94) 2 (by decide +kernel) (by rw [c6]; decide) (by decide) (by decide) (by decide) (by decide) ?_
    refine Go.run (pc' := 95) [.aload_n 0] (ls' := [some (.ref a0), some (.int x1), some (.ref (fld (fld a0 0) 0))]) (st' := [.ref a0]) (by decide +kernel) rfl rfl ?_
    refine Go.getR fo_F_10 k0 (by decide +kernel) ?_
    obtain ⟨v7, e8, e⟩ := bd_inv e
    refine Go.callV (M2 := m_A_standing) (a := (fld a0 0)) (as := []) (rest := []) (v := some (.int v7)) (h1 := h) (x_A_standing hf hI (kf_7_0 k0) e8) wv_F_102 (kf_7_0 k0) kc_1 (by decide +kernel) rfl rfl ⟨⟨Nat.le_of_ble_eq_true rfl, Nat.le_of_ble_eq_true rfl⟩, ⟨Nat.zero_le _, Nat.zero_le _⟩⟩ (Nat.le_of_ble_eq_true rfl) ?_
    show Go l D ad aC _ _ m_F_about 101 [some (.ref a0), some (.int x1), some (.ref (fld (fld a0 0) 0))] [.int v7] h 0 0
    obtain rfl := Option.some.inj e
    exact Go.iret (M := m_F_about) rfl (by decide) (by decide) (by decide +kernel)
  replace e := ite_f c6 e
  rcases Decidable.em (x1 = 3) with c9 | c9
  · replace e := ite_t c9 e
    refine Go.tsIn (dflt := 154) (lo := 0) (hi := 12) (offs := #[65, 70, 75, 83, 91, 99, 107, 115, 123, 131, 139, 144, 149]) (len := 65) (off := 83) (tgt := 102) 3 (by decide +kernel) (by rw [c9]; decide) (by decide) (by decide) (by decide) (by decide) ?_
    refine Go.run (pc' := 103) [.aload_n 0] (ls' := [some (.ref a0), some (.int x1), some (.ref (fld (fld a0 0) 0))]) (st' := [.ref a0]) (by decide +kernel) rfl rfl ?_
    refine Go.getR fo_F_10 k0 (by decide +kernel) ?_
    obtain ⟨v10, e11, e⟩ := bd_inv e
    refine Go.callV (M2 := m_A_allMetres) (a := (fld a0 0)) (as := []) (rest := []) (v := some (.int v10)) (h1 := h) (x_A_allMetres hf hI (kf_7_0 k0) e11) wv_F_105 (kf_7_0 k0) kc_1 (by decide +kernel) rfl rfl ⟨⟨Nat.le_of_ble_eq_true rfl, Nat.le_of_ble_eq_true rfl⟩, ⟨Nat.zero_le _, Nat.zero_le _⟩⟩ (Nat.le_of_ble_eq_true rfl) ?_
    show Go l D ad aC _ _ m_F_about 109 [some (.ref a0), some (.int x1), some (.ref (fld (fld a0 0) 0))] [.int v10] h 0 0
    obtain rfl := Option.some.inj e
    exact Go.iret (M := m_F_about) rfl (by decide) (by decide) (by decide +kernel)
  replace e := ite_f c9 e
  rcases Decidable.em (x1 = 4) with c12 | c12
  · replace e := ite_t c12 e
    refine Go.tsIn (dflt := 154) (lo := 0) (hi := 12) (offs := #[65, 70, 75, 83, 91, 99, 107, 115, 123, 131, 139, 144, 149]) (len := 65) (off := 91) (tgt := 110) 4 (by decide +kernel) (by rw [c12]; decide) (by decide) (by decide) (by decide) (by decide) ?_
    refine Go.run (pc' := 111) [.aload_n 0] (ls' := [some (.ref a0), some (.int x1), some (.ref (fld (fld a0 0) 0))]) (st' := [.ref a0]) (by decide +kernel) rfl rfl ?_
    refine Go.getR fo_F_10 k0 (by decide +kernel) ?_
    obtain ⟨v13, e14, e⟩ := bd_inv e
    refine Go.callV (M2 := m_A_allFreeMetres) (a := (fld a0 0)) (as := []) (rest := []) (v := some (.int v13)) (h1 := h) (x_A_allFreeMetres hf hI (kf_7_0 k0) e14) wv_F_108 (kf_7_0 k0) kc_1 (by decide +kernel) rfl rfl ⟨⟨Nat.le_of_ble_eq_true rfl, Nat.le_of_ble_eq_true rfl⟩, ⟨Nat.zero_le _, Nat.zero_le _⟩⟩ (Nat.le_of_ble_eq_true rfl) ?_
    show Go l D ad aC _ _ m_F_about 117 [some (.ref a0), some (.int x1), some (.ref (fld (fld a0 0) 0))] [.int v13] h 0 0
    obtain rfl := Option.some.inj e
    exact Go.iret (M := m_F_about) rfl (by decide) (by decide) (by decide +kernel)
  replace e := ite_f c12 e
  rcases Decidable.em (x1 = 5) with c15 | c15
  · replace e := ite_t c15 e
    refine Go.tsIn (dflt := 154) (lo := 0) (hi := 12) (offs := #[65, 70, 75, 83, 91, 99, 107, 115, 123, 131, 139, 144, 149]) (len := 65) (off := 99) (tgt := 118) 5 (by decide +kernel) (by rw [c15]; decide) (by decide) (by decide) (by decide) (by decide) ?_
    refine Go.run (pc' := 119) [.aload_n 0] (ls' := [some (.ref a0), some (.int x1), some (.ref (fld (fld a0 0) 0))]) (st' := [.ref a0]) (by decide +kernel) rfl rfl ?_
    refine Go.getR fo_F_10 k0 (by decide +kernel) ?_
    obtain ⟨v16, e17, e⟩ := bd_inv e
    refine Go.callV (M2 := m_A_allPlugs) (a := (fld a0 0)) (as := []) (rest := []) (v := some (.int v16)) (h1 := h) (x_A_allPlugs hf hI (kf_7_0 k0) e17) wv_F_111 (kf_7_0 k0) kc_1 (by decide +kernel) rfl rfl ⟨⟨Nat.le_of_ble_eq_true rfl, Nat.le_of_ble_eq_true rfl⟩, ⟨Nat.zero_le _, Nat.zero_le _⟩⟩ (Nat.le_of_ble_eq_true rfl) ?_
    show Go l D ad aC _ _ m_F_about 125 [some (.ref a0), some (.int x1), some (.ref (fld (fld a0 0) 0))] [.int v16] h 0 0
    obtain rfl := Option.some.inj e
    exact Go.iret (M := m_F_about) rfl (by decide) (by decide) (by decide +kernel)
  replace e := ite_f c15 e
  rcases Decidable.em (x1 = 6) with c18 | c18
  · replace e := ite_t c18 e
    refine Go.tsIn (dflt := 154) (lo := 0) (hi := 12) (offs := #[65, 70, 75, 83, 91, 99, 107, 115, 123, 131, 139, 144, 149]) (len := 65) (off := 107) (tgt := 126) 6 (by decide +kernel) (by rw [c18]; decide) (by decide) (by decide) (by decide) (by decide) ?_
    refine Go.run (pc' := 127) [.aload_n 0] (ls' := [some (.ref a0), some (.int x1), some (.ref (fld (fld a0 0) 0))]) (st' := [.ref a0]) (by decide +kernel) rfl rfl ?_
    refine Go.getR fo_F_10 k0 (by decide +kernel) ?_
    obtain ⟨v19, e20, e⟩ := bd_inv e
    refine Go.callV (M2 := m_A_allPlugsHad) (a := (fld a0 0)) (as := []) (rest := []) (v := some (.int v19)) (h1 := h) (x_A_allPlugsHad hf hI (kf_7_0 k0) e20) wv_F_114 (kf_7_0 k0) kc_1 (by decide +kernel) rfl rfl ⟨⟨Nat.le_of_ble_eq_true rfl, Nat.le_of_ble_eq_true rfl⟩, ⟨Nat.zero_le _, Nat.zero_le _⟩⟩ (Nat.le_of_ble_eq_true rfl) ?_
    show Go l D ad aC _ _ m_F_about 133 [some (.ref a0), some (.int x1), some (.ref (fld (fld a0 0) 0))] [.int v19] h 0 0
    obtain rfl := Option.some.inj e
    exact Go.iret (M := m_F_about) rfl (by decide) (by decide) (by decide +kernel)
  replace e := ite_f c18 e
  rcases Decidable.em (x1 = 7) with c21 | c21
  · replace e := ite_t c21 e
    refine Go.tsIn (dflt := 154) (lo := 0) (hi := 12) (offs := #[65, 70, 75, 83, 91, 99, 107, 115, 123, 131, 139, 144, 149]) (len := 65) (off := 115) (tgt := 134) 7 (by decide +kernel) (by rw [c21]; decide) (by decide) (by decide) (by decide) (by decide) ?_
    refine Go.run (pc' := 135) [.aload_n 0] (ls' := [some (.ref a0), some (.int x1), some (.ref (fld (fld a0 0) 0))]) (st' := [.ref a0]) (by decide +kernel) rfl rfl ?_
    refine Go.getR fo_F_10 k0 (by decide +kernel) ?_
    obtain ⟨v22, e23, e⟩ := bd_inv e
    refine Go.callV (M2 := m_A_allPlugsLacking) (a := (fld a0 0)) (as := []) (rest := []) (v := some (.int v22)) (h1 := h) (x_A_allPlugsLacking hf hI (kf_7_0 k0) e23) wv_F_117 (kf_7_0 k0) kc_1 (by decide +kernel) rfl rfl ⟨⟨Nat.le_of_ble_eq_true rfl, Nat.le_of_ble_eq_true rfl⟩, ⟨Nat.zero_le _, Nat.zero_le _⟩⟩ (Nat.le_of_ble_eq_true rfl) ?_
    show Go l D ad aC _ _ m_F_about 141 [some (.ref a0), some (.int x1), some (.ref (fld (fld a0 0) 0))] [.int v22] h 0 0
    obtain rfl := Option.some.inj e
    exact Go.iret (M := m_F_about) rfl (by decide) (by decide) (by decide +kernel)
  replace e := ite_f c21 e
  rcases Decidable.em (x1 = 8) with c24 | c24
  · replace e := ite_t c24 e
    refine Go.tsIn (dflt := 154) (lo := 0) (hi := 12) (offs := #[65, 70, 75, 83, 91, 99, 107, 115, 123, 131, 139, 144, 149]) (len := 65) (off := 123) (tgt := 142) 8 (by decide +kernel) (by rw [c24]; decide) (by decide) (by decide) (by decide) (by decide) ?_
    refine Go.run (pc' := 143) [.aload_n 0] (ls' := [some (.ref a0), some (.int x1), some (.ref (fld (fld a0 0) 0))]) (st' := [.ref a0]) (by decide +kernel) rfl rfl ?_
    refine Go.getR fo_F_10 k0 (by decide +kernel) ?_
    obtain ⟨v25, e26, e⟩ := bd_inv e
    refine Go.callV (M2 := m_A_rents) (a := (fld a0 0)) (as := []) (rest := []) (v := some (.int v25)) (h1 := h) (x_A_rents hf hI (kf_7_0 k0) e26) wv_F_120 (kf_7_0 k0) kc_1 (by decide +kernel) rfl rfl ⟨⟨Nat.le_of_ble_eq_true rfl, Nat.le_of_ble_eq_true rfl⟩, ⟨Nat.zero_le _, Nat.zero_le _⟩⟩ (Nat.le_of_ble_eq_true rfl) ?_
    show Go l D ad aC _ _ m_F_about 149 [some (.ref a0), some (.int x1), some (.ref (fld (fld a0 0) 0))] [.int v25] h 0 0
    obtain rfl := Option.some.inj e
    exact Go.iret (M := m_F_about) rfl (by decide) (by decide) (by decide +kernel)
  replace e := ite_f c24 e
  rcases Decidable.em (x1 = 9) with c27 | c27
  · replace e := ite_t c27 e
    refine Go.tsIn (dflt := 154) (lo := 0) (hi := 12) (offs := #[65, 70, 75, 83, 91, 99, 107, 115, 123, 131, 139, 144, 149]) (len := 65) (off := 131) (tgt := 150) 9 (by decide +kernel) (by rw [c27]; decide) (by decide) (by decide) (by decide) (by decide) ?_
    refine Go.run (pc' := 151) [.aload_n 0] (ls' := [some (.ref a0), some (.int x1), some (.ref (fld (fld a0 0) 0))]) (st' := [.ref a0]) (by decide +kernel) rfl rfl ?_
    refine Go.getR fo_F_10 k0 (by decide +kernel) ?_
    obtain ⟨v28, e29, e⟩ := bd_inv e
    refine Go.callV (M2 := m_A_allOwed) (a := (fld a0 0)) (as := []) (rest := []) (v := some (.int v28)) (h1 := h) (x_A_allOwed hf hI (kf_7_0 k0) e29) wv_F_123 (kf_7_0 k0) kc_1 (by decide +kernel) rfl rfl ⟨⟨Nat.le_of_ble_eq_true rfl, Nat.le_of_ble_eq_true rfl⟩, ⟨Nat.zero_le _, Nat.zero_le _⟩⟩ (Nat.le_of_ble_eq_true rfl) ?_
    show Go l D ad aC _ _ m_F_about 157 [some (.ref a0), some (.int x1), some (.ref (fld (fld a0 0) 0))] [.int v28] h 0 0
    obtain rfl := Option.some.inj e
    exact Go.iret (M := m_F_about) rfl (by decide) (by decide) (by decide +kernel)
  replace e := ite_f c27 e
  rcases Decidable.em (x1 = 10) with c30 | c30
  · replace e := ite_t c30 e
    refine Go.tsIn (dflt := 154) (lo := 0) (hi := 12) (offs := #[65, 70, 75, 83, 91, 99, 107, 115, 123, 131, 139, 144, 149]) (len := 65) (off := 139) (tgt := 158) 10 (by decide +kernel) (by rw [c30]; decide) (by decide) (by decide) (by decide) (by decide) ?_
    refine Go.run (pc' := 159) [.aload_n 2] (ls' := [some (.ref a0), some (.int x1), some (.ref (fld (fld a0 0) 0))]) (st' := [.ref (fld (fld a0 0) 0)]) (by decide +kernel) rfl rfl ?_
    refine Go.getI fo_F_126 (kf_1_0 (kf_7_0 k0)) (by decide +kernel) ?_
    obtain rfl := Option.some.inj e
    exact Go.iret (M := m_F_about) rfl (by decide) (by decide) (by decide +kernel)
  replace e := ite_f c30 e
  rcases Decidable.em (x1 = 11) with c31 | c31
  · replace e := ite_t c31 e
    refine Go.tsIn (dflt := 154) (lo := 0) (hi := 12) (offs := #[65, 70, 75, 83, 91, 99, 107, 115, 123, 131, 139, 144, 149]) (len := 65) (off := 144) (tgt := 163) 11 (by decide +kernel) (by rw [c31]; decide) (by decide) (by decide) (by decide) (by decide) ?_
    refine Go.run (pc' := 164) [.aload_n 2] (ls' := [some (.ref a0), some (.int x1), some (.ref (fld (fld a0 0) 0))]) (st' := [.ref (fld (fld a0 0) 0)]) (by decide +kernel) rfl rfl ?_
    refine Go.getI fo_F_129 (kf_1_0 (kf_7_0 k0)) (by decide +kernel) ?_
    obtain rfl := Option.some.inj e
    exact Go.iret (M := m_F_about) rfl (by decide) (by decide) (by decide +kernel)
  replace e := ite_f c31 e
  rcases Decidable.em (x1 = 12) with c32 | c32
  · replace e := ite_t c32 e
    refine Go.tsIn (dflt := 154) (lo := 0) (hi := 12) (offs := #[65, 70, 75, 83, 91, 99, 107, 115, 123, 131, 139, 144, 149]) (len := 65) (off := 149) (tgt := 168) 12 (by decide +kernel) (by rw [c32]; decide) (by decide) (by decide) (by decide) (by decide) ?_
    refine Go.run (pc' := 169) [.aload_n 2] (ls' := [some (.ref a0), some (.int x1), some (.ref (fld (fld a0 0) 0))]) (st' := [.ref (fld (fld a0 0) 0)]) (by decide +kernel) rfl rfl ?_
    refine Go.getI fo_F_132 (kf_1_0 (kf_7_0 k0)) (by decide +kernel) ?_
    obtain rfl := Option.some.inj e
    exact Go.iret (M := m_F_about) rfl (by decide) (by decide) (by decide +kernel)
  replace e := ite_f c32 e
  refine Go.tsOut (dflt := 154) (lo := 0) (hi := 12) (offs := #[65, 70, 75, 83, 91, 99, 107, 115, 123, 131, 139, 144, 149]) (len := 65) (tgt := 173) (by decide +kernel) (by have zc4 := lv_neT c4 (a := 0) rfl; have zc5 := lv_neT c5 (a := 1) rfl; have zc6 := lv_neT c6 (a := 2) rfl; have zc9 := lv_neT c9 (a := 3) rfl; have zc12 := lv_neT c12 (a := 4) rfl; have zc15 := lv_neT c15 (a := 5) rfl; have zc18 := lv_neT c18 (a := 6) rfl; have zc21 := lv_neT c21 (a := 7) rfl; have zc24 := lv_neT c24 (a := 8) rfl; have zc27 := lv_neT c27 (a := 9) rfl; have zc30 := lv_neT c30 (a := 10) rfl; have zc31 := lv_neT c31 (a := 11) rfl; have zc32 := lv_neT c32 (a := 12) rfl; omega) (by decide) ?_
  refine Go.run (pc' := 174) [.aload_n 0] (ls' := [some (.ref a0), some (.int x1), some (.ref (fld (fld a0 0) 0))]) (st' := [.ref a0]) (by decide +kernel) rfl rfl ?_
  refine Go.getR fo_F_10 k0 (by decide +kernel) ?_
  obtain ⟨v33, e34, e⟩ := bd_inv e
  refine Go.callV (M2 := m_A_rivalPairs) (a := (fld a0 0)) (as := []) (rest := []) (v := some (.int v33)) (h1 := h) (x_A_rivalPairs hf hI (kf_7_0 k0) e34) wv_F_135 (kf_7_0 k0) kc_1 (by decide +kernel) rfl rfl ⟨⟨Nat.le_of_ble_eq_true rfl, Nat.le_of_ble_eq_true rfl⟩, ⟨Nat.zero_le _, Nat.zero_le _⟩⟩ (Nat.le_of_ble_eq_true rfl) ?_
  show Go l D ad aC _ _ m_F_about 180 [some (.ref a0), some (.int x1), some (.ref (fld (fld a0 0) 0))] [.int v33] h 0 0
  obtain rfl := Option.some.inj e
  exact Go.iret (M := m_F_about) rfl (by decide) (by decide) (by decide +kernel)
def f_F_wallOf (h : HP) (a0 : Nat) (x1 : Int32) (x2 : Int32) : Option (Res × HP) :=
  (f_S_hasWall h (fld (fld a0 0) 0) x1).bind fun v1 =>
  if v1 = 0 then some (.inr "java/lang/IndexOutOfBoundsException", h) else
  (f_F_inRange h x2 (0 : Int32) (5 : Int32)).bind fun v4 =>
  if v4 = 0 then some (.inr "java/lang/IllegalArgumentException", h) else
  if x2 = 0 then
    (f_S_lengthOf h (fld (fld a0 0) 0) x1).bind fun v8 =>
    some (.inl (some (.int v8)), h)
  else
    if x2 = 1 then
      (f_A_standingAt h (fld a0 0) x1).bind fun v11 =>
      some (.inl (some (.int v11)), h)
    else
      if x2 = 2 then
        (f_A_plugsAt h (fld a0 0) x1).bind fun v14 =>
        some (.inl (some (.int v14)), h)
      else
        if x2 = 3 then
          (f_A_plugsHadAt h (fld a0 0) x1).bind fun v17 =>
          some (.inl (some (.int v17)), h)
        else
          if x2 = 4 then
            (f_A_longestFreeRow h (fld a0 0) x1).bind fun v20 =>
            some (.inl (some (.int v20)), h)
          else
            (f_A_startOfLongestFreeRow h (fld a0 0) x1).bind fun v22 =>
            some (.inl (some (.int v22)), h)
set_option maxHeartbeats 1000000 in
theorem x_F_wallOf {l : Launch} {D : va_G} {ad : Nat → Nat} {aC : Nat → ClassId} (hf : l.flags = flags0) (hI : Inj ad) {h : HP} {a0 : Nat} {x1 : Int32} {x2 : Int32} {r : Res × HP} (k0 : knd a0 = 7) (e : f_F_wallOf h a0 x1 x2 = some r) : CT l D ad aC (mr m_F_wallOf r.1) [.ref a0, .int x1, .int x2] h r.1 r.2 := by
  refine CT.ofGoR (by decide +kernel) rfl (Nat.le_of_ble_eq_true rfl) ?_
  unfold f_F_wallOf at e
  show Go l D ad aC _ _ m_F_wallOf 0 [some (.ref a0), some (.int x1), some (.int x2)] [] h 0 0
  refine Go.run (pc' := 1) [.aload_n 0] (ls' := [some (.ref a0), some (.int x1), some (.int x2)]) (st' := [.ref a0]) (by decide +kernel) rfl rfl ?_
  refine Go.getR fo_F_10 k0 (by decide +kernel) ?_
  refine Go.getR fo_F_89 (kf_7_0 k0) (by decide +kernel) ?_
  refine Go.run (pc' := 8) [.iload_n 1] (ls' := [some (.ref a0), some (.int x1), some (.int x2)]) (st' := [.int x1, .ref (fld (fld a0 0) 0)]) (by decide +kernel) rfl rfl ?_
  obtain ⟨v1, e2, e⟩ := bd_inv e
  refine Go.callV (M2 := m_S_hasWall) (a := (fld (fld a0 0) 0)) (as := [.int x1]) (rest := []) (v := some (.int v1)) (h1 := h) (x_S_hasWall hf hI (kf_1_0 (kf_7_0 k0)) e2) wv_F_138 (kf_1_0 (kf_7_0 k0)) kc_6 (by decide +kernel) rfl rfl ⟨⟨Nat.le_of_ble_eq_true rfl, Nat.le_of_ble_eq_true rfl⟩, ⟨Nat.zero_le _, Nat.zero_le _⟩⟩ (Nat.le_of_ble_eq_true rfl) ?_
  show Go l D ad aC _ _ m_F_wallOf 11 [some (.ref a0), some (.int x1), some (.int x2)] [.int v1] h 0 0
  rcases Decidable.em (v1 = 0) with c3 | c3
  · replace e := ite_t c3 e
    obtain rfl := Option.some.inj e
    exact Go.mr (res := .inr "java/lang/IndexOutOfBoundsException") (Go.thrown (M := mr m_F_wallOf (.inr "java/lang/IndexOutOfBoundsException")) (M2 := mr m_F_needExists (.inr "java/lang/IndexOutOfBoundsException")) (as := [.int v1]) (rest := []) (h1 := h) (by have q := x_F_needExists (l := l) (D := D) (ad := ad) (aC := aC) hf (h := h) (b := v1); rw [if_pos c3] at q; exact q) (WS.mr ws_F_142) (by decide +kernel) rfl rfl ⟨⟨Nat.le_of_ble_eq_true rfl, Nat.le_of_ble_eq_true rfl⟩, ⟨Nat.le_of_ble_eq_true rfl, Nat.le_of_ble_eq_true rfl⟩⟩ (Nat.le_of_ble_eq_true rfl) rfl (by decide) (by decide) (by decide))
  replace e := ite_f c3 e
  refine Go.callS (M2 := mr m_F_needExists (.inl none)) (as := [.int v1]) (rest := []) (v := none) (h1 := h) (by have q := x_F_needExists (l := l) (D := D) (ad := ad) (aC := aC) hf (h := h) (b := v1); rw [if_neg c3] at q; exact q) (WS.mr ws_F_142) (by decide +kernel) rfl rfl ⟨⟨Nat.le_of_ble_eq_true rfl, Nat.le_of_ble_eq_true rfl⟩, ⟨Nat.zero_le _, Nat.zero_le _⟩⟩ (Nat.le_of_ble_eq_true rfl) ?_
  show Go l D ad aC _ _ m_F_wallOf 14 [some (.ref a0), some (.int x1), some (.int x2)] [] h 0 0
  refine Go.run (pc' := 17) [.iload_n 2, .iconst 0, .iconst 5] (ls' := [some (.ref a0), some (.int x1), some (.int x2)]) (st' := [.int (5 : Int32), .int (0 : Int32), .int x2]) (by decide +kernel) rfl rfl ?_
  obtain ⟨v4, e5, e⟩ := bd_inv e
  refine Go.callS (M2 := m_F_inRange) (as := [.int x2, .int (0 : Int32), .int (5 : Int32)]) (rest := []) (v := some (.int v4)) (h1 := h) (x_F_inRange hf hI  e5) ws_F_44 (by decide +kernel) rfl rfl ⟨⟨Nat.le_of_ble_eq_true rfl, Nat.le_of_ble_eq_true rfl⟩, ⟨Nat.zero_le _, Nat.zero_le _⟩⟩ (Nat.le_of_ble_eq_true rfl) ?_
  show Go l D ad aC _ _ m_F_wallOf 20 [some (.ref a0), some (.int x1), some (.int x2)] [.int v4] h 0 0
  rcases Decidable.em (v4 = 0) with c6 | c6
  · replace e := ite_t c6 e
    obtain rfl := Option.some.inj e
    exact Go.mr (res := .inr "java/lang/IllegalArgumentException") (Go.thrown (M := mr m_F_wallOf (.inr "java/lang/IllegalArgumentException")) (M2 := mr m_F_needArgument (.inr "java/lang/IllegalArgumentException")) (as := [.int v4]) (rest := []) (h1 := h) (by have q := x_F_needArgument (l := l) (D := D) (ad := ad) (aC := aC) hf (h := h) (b := v4); rw [if_pos c6] at q; exact q) (WS.mr ws_F_48) (by decide +kernel) rfl rfl ⟨⟨Nat.le_of_ble_eq_true rfl, Nat.le_of_ble_eq_true rfl⟩, ⟨Nat.le_of_ble_eq_true rfl, Nat.le_of_ble_eq_true rfl⟩⟩ (Nat.le_of_ble_eq_true rfl) rfl (by decide) (by decide) (by decide))
  replace e := ite_f c6 e
  refine Go.callS (M2 := mr m_F_needArgument (.inl none)) (as := [.int v4]) (rest := []) (v := none) (h1 := h) (by have q := x_F_needArgument (l := l) (D := D) (ad := ad) (aC := aC) hf (h := h) (b := v4); rw [if_neg c6] at q; exact q) (WS.mr ws_F_48) (by decide +kernel) rfl rfl ⟨⟨Nat.le_of_ble_eq_true rfl, Nat.le_of_ble_eq_true rfl⟩, ⟨Nat.zero_le _, Nat.zero_le _⟩⟩ (Nat.le_of_ble_eq_true rfl) ?_
  show Go l D ad aC _ _ m_F_wallOf 23 [some (.ref a0), some (.int x1), some (.int x2)] [] h 0 0
  refine Go.run (pc' := 24) [.iload_n 2] (ls' := [some (.ref a0), some (.int x1), some (.int x2)]) (st' := [.int x2]) (by decide +kernel) rfl rfl ?_
  rcases Decidable.em (x2 = 0) with c7 | c7
  · replace e := ite_t c7 e
    refine Go.tsIn (dflt := 84) (lo := 0) (hi := 4) (offs := #[36, 48, 57, 66, 75]) (len := 36) (off := 36) (tgt := 60) 0 (by decide +kernel) (by rw [c7]; decide) (by decide) (by decide) (by decide) (by decide) ?_
    refine Go.run (pc' := 61) [.aload_n 0] (ls' := [some (.ref a0), some (.int x1), some (.int x2)]) (st' := [.ref a0]) (by decide +kernel) rfl rfl ?_
    refine Go.getR fo_F_10 k0 (by decide +kernel) ?_
    refine Go.getR fo_F_89 (kf_7_0 k0) (by decide +kernel) ?_
    refine Go.run (pc' := 68) [.iload_n 1] (ls' := [some (.ref a0), some (.int x1), some (.int x2)]) (st' := [.int x1, .ref (fld (fld a0 0) 0)]) (by decide +kernel) rfl rfl ?_
    obtain ⟨v8, e9, e⟩ := bd_inv e
    refine Go.callV (M2 := m_S_lengthOf) (a := (fld (fld a0 0) 0)) (as := [.int x1]) (rest := []) (v := some (.int v8)) (h1 := h) (x_S_lengthOf hf hI (kf_1_0 (kf_7_0 k0)) e9) wv_F_145 (kf_1_0 (kf_7_0 k0)) kc_6 (by decide +kernel) rfl rfl ⟨⟨Nat.le_of_ble_eq_true rfl, Nat.le_of_ble_eq_true rfl⟩, ⟨Nat.zero_le _, Nat.zero_le _⟩⟩ (Nat.le_of_ble_eq_true rfl) ?_
    show Go l D ad aC _ _ m_F_wallOf 71 [some (.ref a0), some (.int x1), some (.int x2)] [.int v8] h 0 0
    obtain rfl := Option.some.inj e
    exact Go.iret (M := m_F_wallOf) rfl (by decide) (by decide) (by decide +kernel)
  replace e := ite_f c7 e
  rcases Decidable.em (x2 = 1) with c10 | c10
  · replace e := ite_t c10 e
    refine Go.tsIn (dflt := 84) (lo := 0) (hi := 4) (offs := #[36, 48, 57, 66, 75]) (len := 36) (off := 48) (tgt := 72) 1 (by decide +kernel) (by rw [c10]; decide) (by decide) (by decide) (by decide) (by decide) ?_
    refine Go.run (pc' := 73) [.aload_n 0] (ls' := [some (.ref a0), some (.int x1), some (.int x2)]) (st' := [.ref a0]) (by decide +kernel) rfl rfl ?_
    refine Go.getR fo_F_10 k0 (by decide +kernel) ?_
    refine Go.run (pc' := 77) [.iload_n 1] (ls' := [some (.ref a0), some (.int x1), some (.int x2)]) (st' := [.int x1, .ref (fld a0 0)]) (by decide +kernel) rfl rfl ?_
    obtain ⟨v11, e12, e⟩ := bd_inv e
    refine Go.callV (M2 := m_A_standingAt) (a := (fld a0 0)) (as := [.int x1]) (rest := []) (v := some (.int v11)) (h1 := h) (x_A_standingAt hf hI (kf_7_0 k0) e12) wv_F_149 (kf_7_0 k0) kc_1 (by decide +kernel) rfl rfl ⟨⟨Nat.le_of_ble_eq_true rfl, Nat.le_of_ble_eq_true rfl⟩, ⟨Nat.zero_le _, Nat.zero_le _⟩⟩ (Nat.le_of_ble_eq_true rfl) ?_
    show Go l D ad aC _ _ m_F_wallOf 80 [some (.ref a0), some (.int x1), some (.int x2)] [.int v11] h 0 0
    obtain rfl := Option.some.inj e
    exact Go.iret (M := m_F_wallOf) rfl (by decide) (by decide) (by decide +kernel)
  replace e := ite_f c10 e
  rcases Decidable.em (x2 = 2) with c13 | c13
  · replace e := ite_t c13 e
    refine Go.tsIn (dflt := 84) (lo := 0) (hi := 4) (offs := #[36, 48, 57, 66, 75]) (len := 36) (off := 57) (tgt := 81) 2 (by decide +kernel) (by rw [c13]; decide) (by decide) (by decide) (by decide) (by decide) ?_
    refine Go.run (pc' := 82) [.aload_n 0] (ls' := [some (.ref a0), some (.int x1), some (.int x2)]) (st' := [.ref a0]) (by decide +kernel) rfl rfl ?_
    refine Go.getR fo_F_10 k0 (by decide +kernel) ?_
    refine Go.run (pc' := 86) [.iload_n 1] (ls' := [some (.ref a0), some (.int x1), some (.int x2)]) (st' := [.int x1, .ref (fld a0 0)]) (by decide +kernel) rfl rfl ?_
    obtain ⟨v14, e15, e⟩ := bd_inv e
    refine Go.callV (M2 := m_A_plugsAt) (a := (fld a0 0)) (as := [.int x1]) (rest := []) (v := some (.int v14)) (h1 := h) (x_A_plugsAt hf hI (kf_7_0 k0) e15) wv_F_152 (kf_7_0 k0) kc_1 (by decide +kernel) rfl rfl ⟨⟨Nat.le_of_ble_eq_true rfl, Nat.le_of_ble_eq_true rfl⟩, ⟨Nat.zero_le _, Nat.zero_le _⟩⟩ (Nat.le_of_ble_eq_true rfl) ?_
    show Go l D ad aC _ _ m_F_wallOf 89 [some (.ref a0), some (.int x1), some (.int x2)] [.int v14] h 0 0
    obtain rfl := Option.some.inj e
    exact Go.iret (M := m_F_wallOf) rfl (by decide) (by decide) (by decide +kernel)
  replace e := ite_f c13 e
  rcases Decidable.em (x2 = 3) with c16 | c16
  · replace e := ite_t c16 e
    refine Go.tsIn (dflt := 84) (lo := 0) (hi := 4) (offs := #[36, 48, 57, 66, 75]) (len := 36) (off := 66) (tgt := 90) 3 (by decide +kernel) (by rw [c16]; decide) (by decide) (by decide) (by decide) (by decide) ?_
    refine Go.run (pc' := 91) [.aload_n 0] (ls' := [some (.ref a0), some (.int x1), some (.int x2)]) (st' := [.ref a0]) (by decide +kernel) rfl rfl ?_
    refine Go.getR fo_F_10 k0 (by decide +kernel) ?_
    refine Go.run (pc' := 95) [.iload_n 1] (ls' := [some (.ref a0), some (.int x1), some (.int x2)]) (st' := [.int x1, .ref (fld a0 0)]) (by decide +kernel) rfl rfl ?_
    obtain ⟨v17, e18, e⟩ := bd_inv e
    refine Go.callV (M2 := m_A_plugsHadAt) (a := (fld a0 0)) (as := [.int x1]) (rest := []) (v := some (.int v17)) (h1 := h) (x_A_plugsHadAt hf hI (kf_7_0 k0) e18) wv_F_155 (kf_7_0 k0) kc_1 (by decide +kernel) rfl rfl ⟨⟨Nat.le_of_ble_eq_true rfl, Nat.le_of_ble_eq_true rfl⟩, ⟨Nat.zero_le _, Nat.zero_le _⟩⟩ (Nat.le_of_ble_eq_true rfl) ?_
    show Go l D ad aC _ _ m_F_wallOf 98 [some (.ref a0), some (.int x1), some (.int x2)] [.int v17] h 0 0
    obtain rfl := Option.some.inj e
    exact Go.iret (M := m_F_wallOf) rfl (by decide) (by decide) (by decide +kernel)
  replace e := ite_f c16 e
  rcases Decidable.em (x2 = 4) with c19 | c19
  · replace e := ite_t c19 e
    refine Go.tsIn (dflt := 84) (lo := 0) (hi := 4) (offs := #[36, 48, 57, 66, 75]) (len := 36) (off := 75) (tgt := 99) 4 (by decide +kernel) (by rw [c19]; decide) (by decide) (by decide) (by decide) (by decide) ?_
    refine Go.run (pc' := 100) [.aload_n 0] (ls' := [some (.ref a0), some (.int x1), some (.int x2)]) (st' := [.ref a0]) (by decide +kernel) rfl rfl ?_
    refine Go.getR fo_F_10 k0 (by decide +kernel) ?_
    refine Go.run (pc' := 104) [.iload_n 1] (ls' := [some (.ref a0), some (.int x1), some (.int x2)]) (st' := [.int x1, .ref (fld a0 0)]) (by decide +kernel) rfl rfl ?_
    obtain ⟨v20, e21, e⟩ := bd_inv e
    refine Go.callV (M2 := m_A_longestFreeRow) (a := (fld a0 0)) (as := [.int x1]) (rest := []) (v := some (.int v20)) (h1 := h) (x_A_longestFreeRow hf hI (kf_7_0 k0) e21) wv_F_158 (kf_7_0 k0) kc_1 (by decide +kernel) rfl rfl ⟨⟨Nat.le_of_ble_eq_true rfl, Nat.le_of_ble_eq_true rfl⟩, ⟨Nat.zero_le _, Nat.zero_le _⟩⟩ (Nat.le_of_ble_eq_true rfl) ?_
    show Go l D ad aC _ _ m_F_wallOf 107 [some (.ref a0), some (.int x1), some (.int x2)] [.int v20] h 0 0
    obtain rfl := Option.some.inj e
    exact Go.iret (M := m_F_wallOf) rfl (by decide) (by decide) (by decide +kernel)
  replace e := ite_f c19 e
  refine Go.tsOut (dflt := 84) (lo := 0) (hi := 4) (offs := #[36, 48, 57, 66, 75]) (len := 36) (tgt := 108) (by decide +kernel) (by have zc7 := lv_neT c7 (a := 0) rfl; have zc10 := lv_neT c10 (a := 1) rfl; have zc13 := lv_neT c13 (a := 2) rfl; have zc16 := lv_neT c16 (a := 3) rfl; have zc19 := lv_neT c19 (a := 4) rfl; omega) (by decide) ?_
  refine Go.run (pc' := 109) [.aload_n 0] (ls' := [some (.ref a0), some (.int x1), some (.int x2)]) (st' := [.ref a0]) (by decide +kernel) rfl rfl ?_
  refine Go.getR fo_F_10 k0 (by decide +kernel) ?_
  refine Go.run (pc' := 113) [.iload_n 1] (ls' := [some (.ref a0), some (.int x1), some (.int x2)]) (st' := [.int x1, .ref (fld a0 0)]) (by decide +kernel) rfl rfl ?_
  obtain ⟨v22, e23, e⟩ := bd_inv e
  refine Go.callV (M2 := m_A_startOfLongestFreeRow) (a := (fld a0 0)) (as := [.int x1]) (rest := []) (v := some (.int v22)) (h1 := h) (x_A_startOfLongestFreeRow hf hI (kf_7_0 k0) e23) wv_F_161 (kf_7_0 k0) kc_1 (by decide +kernel) rfl rfl ⟨⟨Nat.le_of_ble_eq_true rfl, Nat.le_of_ble_eq_true rfl⟩, ⟨Nat.zero_le _, Nat.zero_le _⟩⟩ (Nat.le_of_ble_eq_true rfl) ?_
  show Go l D ad aC _ _ m_F_wallOf 116 [some (.ref a0), some (.int x1), some (.int x2)] [.int v22] h 0 0
  obtain rfl := Option.some.inj e
  exact Go.iret (M := m_F_wallOf) rfl (by decide) (by decide) (by decide +kernel)
def f_F_metreOf (h : HP) (a0 : Nat) (x1 : Int32) (x2 : Int32) (x3 : Int32) : Option (Res × HP) :=
  (f_S_hasMetre h (fld (fld a0 0) 0) x1 x2).bind fun v1 =>
  if v1 = 0 then some (.inr "java/lang/IndexOutOfBoundsException", h) else
  (f_F_inRange h x3 (0 : Int32) (2 : Int32)).bind fun v4 =>
  if v4 = 0 then some (.inr "java/lang/IllegalArgumentException", h) else
  if x3 = 0 then
    (f_S_plugsOf h (fld (fld a0 0) 0) x1 x2).bind fun v8 =>
    some (.inl (some (.int v8)), h)
  else
    if x3 = 1 then
      (f_W_takenFrom h (fld (fld a0 0) 1) x1 x2).bind fun v11 =>
      some (.inl (some (.int v11)), h)
    else
      (f_A_whoStandsAt h (fld a0 0) x1 x2).bind fun v13 =>
      some (.inl (some (.int v13)), h)
set_option maxHeartbeats 1000000 in
theorem x_F_metreOf {l : Launch} {D : va_G} {ad : Nat → Nat} {aC : Nat → ClassId} (hf : l.flags = flags0) (hI : Inj ad) {h : HP} {a0 : Nat} {x1 : Int32} {x2 : Int32} {x3 : Int32} {r : Res × HP} (k0 : knd a0 = 7) (e : f_F_metreOf h a0 x1 x2 x3 = some r) : CT l D ad aC (mr m_F_metreOf r.1) [.ref a0, .int x1, .int x2, .int x3] h r.1 r.2 := by
  refine CT.ofGoR (by decide +kernel) rfl (Nat.le_of_ble_eq_true rfl) ?_
  unfold f_F_metreOf at e
  show Go l D ad aC _ _ m_F_metreOf 0 [some (.ref a0), some (.int x1), some (.int x2), some (.int x3)] [] h 0 0
  refine Go.run (pc' := 1) [.aload_n 0] (ls' := [some (.ref a0), some (.int x1), some (.int x2), some (.int x3)]) (st' := [.ref a0]) (by decide +kernel) rfl rfl ?_
  refine Go.getR fo_F_10 k0 (by decide +kernel) ?_
  refine Go.getR fo_F_89 (kf_7_0 k0) (by decide +kernel) ?_
  refine Go.run (pc' := 9) [.iload_n 1, .iload_n 2] (ls' := [some (.ref a0), some (.int x1), some (.int x2), some (.int x3)]) (st' := [.int x2, .int x1, .ref (fld (fld a0 0) 0)]) (by decide +kernel) rfl rfl ?_
  obtain ⟨v1, e2, e⟩ := bd_inv e
  refine Go.callV (M2 := m_S_hasMetre) (a := (fld (fld a0 0) 0)) (as := [.int x1, .int x2]) (rest := []) (v := some (.int v1)) (h1 := h) (x_S_hasMetre hf hI (kf_1_0 (kf_7_0 k0)) e2) wv_F_164 (kf_1_0 (kf_7_0 k0)) kc_6 (by decide +kernel) rfl rfl ⟨⟨Nat.le_of_ble_eq_true rfl, Nat.le_of_ble_eq_true rfl⟩, ⟨Nat.zero_le _, Nat.zero_le _⟩⟩ (Nat.le_of_ble_eq_true rfl) ?_
  show Go l D ad aC _ _ m_F_metreOf 12 [some (.ref a0), some (.int x1), some (.int x2), some (.int x3)] [.int v1] h 0 0
  rcases Decidable.em (v1 = 0) with c3 | c3
  · replace e := ite_t c3 e
    obtain rfl := Option.some.inj e
    exact Go.mr (res := .inr "java/lang/IndexOutOfBoundsException") (Go.thrown (M := mr m_F_metreOf (.inr "java/lang/IndexOutOfBoundsException")) (M2 := mr m_F_needExists (.inr "java/lang/IndexOutOfBoundsException")) (as := [.int v1]) (rest := []) (h1 := h) (by have q := x_F_needExists (l := l) (D := D) (ad := ad) (aC := aC) hf (h := h) (b := v1); rw [if_pos c3] at q; exact q) (WS.mr ws_F_142) (by decide +kernel) rfl rfl ⟨⟨Nat.le_of_ble_eq_true rfl, Nat.le_of_ble_eq_true rfl⟩, ⟨Nat.le_of_ble_eq_true rfl, Nat.le_of_ble_eq_true rfl⟩⟩ (Nat.le_of_ble_eq_true rfl) rfl (by decide) (by decide) (by decide))
  replace e := ite_f c3 e
  refine Go.callS (M2 := mr m_F_needExists (.inl none)) (as := [.int v1]) (rest := []) (v := none) (h1 := h) (by have q := x_F_needExists (l := l) (D := D) (ad := ad) (aC := aC) hf (h := h) (b := v1); rw [if_neg c3] at q; exact q) (WS.mr ws_F_142) (by decide +kernel) rfl rfl ⟨⟨Nat.le_of_ble_eq_true rfl, Nat.le_of_ble_eq_true rfl⟩, ⟨Nat.zero_le _, Nat.zero_le _⟩⟩ (Nat.le_of_ble_eq_true rfl) ?_
  show Go l D ad aC _ _ m_F_metreOf 15 [some (.ref a0), some (.int x1), some (.int x2), some (.int x3)] [] h 0 0
  refine Go.run (pc' := 18) [.iload_n 3, .iconst 0, .iconst 2] (ls' := [some (.ref a0), some (.int x1), some (.int x2), some (.int x3)]) (st' := [.int (2 : Int32), .int (0 : Int32), .int x3]) (by decide +kernel) rfl rfl ?_
  obtain ⟨v4, e5, e⟩ := bd_inv e
  refine Go.callS (M2 := m_F_inRange) (as := [.int x3, .int (0 : Int32), .int (2 : Int32)]) (rest := []) (v := some (.int v4)) (h1 := h) (x_F_inRange hf hI  e5) ws_F_44 (by decide +kernel) rfl rfl ⟨⟨Nat.le_of_ble_eq_true rfl, Nat.le_of_ble_eq_true rfl⟩, ⟨Nat.zero_le _, Nat.zero_le _⟩⟩ (Nat.le_of_ble_eq_true rfl) ?_
  show Go l D ad aC _ _ m_F_metreOf 21 [some (.ref a0), some (.int x1), some (.int x2), some (.int x3)] [.int v4] h 0 0
  rcases Decidable.em (v4 = 0) with c6 | c6
  · replace e := ite_t c6 e
    obtain rfl := Option.some.inj e
    exact Go.mr (res := .inr "java/lang/IllegalArgumentException") (Go.thrown (M := mr m_F_metreOf (.inr "java/lang/IllegalArgumentException")) (M2 := mr m_F_needArgument (.inr "java/lang/IllegalArgumentException")) (as := [.int v4]) (rest := []) (h1 := h) (by have q := x_F_needArgument (l := l) (D := D) (ad := ad) (aC := aC) hf (h := h) (b := v4); rw [if_pos c6] at q; exact q) (WS.mr ws_F_48) (by decide +kernel) rfl rfl ⟨⟨Nat.le_of_ble_eq_true rfl, Nat.le_of_ble_eq_true rfl⟩, ⟨Nat.le_of_ble_eq_true rfl, Nat.le_of_ble_eq_true rfl⟩⟩ (Nat.le_of_ble_eq_true rfl) rfl (by decide) (by decide) (by decide))
  replace e := ite_f c6 e
  refine Go.callS (M2 := mr m_F_needArgument (.inl none)) (as := [.int v4]) (rest := []) (v := none) (h1 := h) (by have q := x_F_needArgument (l := l) (D := D) (ad := ad) (aC := aC) hf (h := h) (b := v4); rw [if_neg c6] at q; exact q) (WS.mr ws_F_48) (by decide +kernel) rfl rfl ⟨⟨Nat.le_of_ble_eq_true rfl, Nat.le_of_ble_eq_true rfl⟩, ⟨Nat.zero_le _, Nat.zero_le _⟩⟩ (Nat.le_of_ble_eq_true rfl) ?_
  show Go l D ad aC _ _ m_F_metreOf 24 [some (.ref a0), some (.int x1), some (.int x2), some (.int x3)] [] h 0 0
  refine Go.run (pc' := 25) [.iload_n 3] (ls' := [some (.ref a0), some (.int x1), some (.int x2), some (.int x3)]) (st' := [.int x3]) (by decide +kernel) rfl rfl ?_
  rcases Decidable.em (x3 = 0) with c7 | c7
  · replace e := ite_t c7 e
    refine Go.lks (dflt := 53) (ps := #[(0, 27), (1, 40)]) (len := 27) (off := 27) (tgt := 52) (by decide +kernel) (by decide) (by rw [c7]; decide) (by decide) ?_
    refine Go.run (pc' := 53) [.aload_n 0] (ls' := [some (.ref a0), some (.int x1), some (.int x2), some (.int x3)]) (st' := [.ref a0]) (by decide +kernel) rfl rfl ?_
    refine Go.getR fo_F_10 k0 (by decide +kernel) ?_
    refine Go.getR fo_F_89 (kf_7_0 k0) (by decide +kernel) ?_
    refine Go.run (pc' := 61) [.iload_n 1, .iload_n 2] (ls' := [some (.ref a0), some (.int x1), some (.int x2), some (.int x3)]) (st' := [.int x2, .int x1, .ref (fld (fld a0 0) 0)]) (by decide +kernel) rfl rfl ?_
    obtain ⟨v8, e9, e⟩ := bd_inv e
    refine Go.callV (M2 := m_S_plugsOf) (a := (fld (fld a0 0) 0)) (as := [.int x1, .int x2]) (rest := []) (v := some (.int v8)) (h1 := h) (x_S_plugsOf hf hI (kf_1_0 (kf_7_0 k0)) e9) wv_F_168 (kf_1_0 (kf_7_0 k0)) kc_6 (by decide +kernel) rfl rfl ⟨⟨Nat.le_of_ble_eq_true rfl, Nat.le_of_ble_eq_true rfl⟩, ⟨Nat.zero_le _, Nat.zero_le _⟩⟩ (Nat.le_of_ble_eq_true rfl) ?_
    show Go l D ad aC _ _ m_F_metreOf 64 [some (.ref a0), some (.int x1), some (.int x2), some (.int x3)] [.int v8] h 0 0
    obtain rfl := Option.some.inj e
    exact Go.iret (M := m_F_metreOf) rfl (by decide) (by decide) (by decide +kernel)
  replace e := ite_f c7 e
  rcases Decidable.em (x3 = 1) with c10 | c10
  · replace e := ite_t c10 e
    refine Go.lks (dflt := 53) (ps := #[(0, 27), (1, 40)]) (len := 27) (off := 40) (tgt := 65) (by decide +kernel) (by decide) (by rw [c10]; decide) (by decide) ?_
    refine Go.run (pc' := 66) [.aload_n 0] (ls' := [some (.ref a0), some (.int x1), some (.int x2), some (.int x3)]) (st' := [.ref a0]) (by decide +kernel) rfl rfl ?_
    refine Go.getR fo_F_10 k0 (by decide +kernel) ?_
    refine Go.getR fo_F_172 (kf_7_0 k0) (by decide +kernel) ?_
    refine Go.run (pc' := 74) [.iload_n 1, .iload_n 2] (ls' := [some (.ref a0), some (.int x1), some (.int x2), some (.int x3)]) (st' := [.int x2, .int x1, .ref (fld (fld a0 0) 1)]) (by decide +kernel) rfl rfl ?_
    obtain ⟨v11, e12, e⟩ := bd_inv e
    refine Go.callV (M2 := m_W_takenFrom) (a := (fld (fld a0 0) 1)) (as := [.int x1, .int x2]) (rest := []) (v := some (.int v11)) (h1 := h) (x_W_takenFrom hf hI (kf_1_1 (kf_7_0 k0)) e12) wv_F_176 (kf_1_1 (kf_7_0 k0)) kc_4 (by decide +kernel) rfl rfl ⟨⟨Nat.le_of_ble_eq_true rfl, Nat.le_of_ble_eq_true rfl⟩, ⟨Nat.zero_le _, Nat.zero_le _⟩⟩ (Nat.le_of_ble_eq_true rfl) ?_
    show Go l D ad aC _ _ m_F_metreOf 77 [some (.ref a0), some (.int x1), some (.int x2), some (.int x3)] [.int v11] h 0 0
    obtain rfl := Option.some.inj e
    exact Go.iret (M := m_F_metreOf) rfl (by decide) (by decide) (by decide +kernel)
  replace e := ite_f c10 e
  refine Go.lks (dflt := 53) (ps := #[(0, 27), (1, 40)]) (len := 27) (off := 53) (tgt := 78) (by decide +kernel) (by decide) (by simp only []; rw [lv_osw c7 (a := 0) rfl, lv_osw c10 (a := 1) rfl]; rfl) (by decide) ?_
  refine Go.run (pc' := 79) [.aload_n 0] (ls' := [some (.ref a0), some (.int x1), some (.int x2), some (.int x3)]) (st' := [.ref a0]) (by decide +kernel) rfl rfl ?_
  refine Go.getR fo_F_10 k0 (by decide +kernel) ?_
  refine Go.run (pc' := 84) [.iload_n 1, .iload_n 2] (ls' := [some (.ref a0), some (.int x1), some (.int x2), some (.int x3)]) (st' := [.int x2, .int x1, .ref (fld a0 0)]) (by decide +kernel) rfl rfl ?_
  obtain ⟨v13, e14, e⟩ := bd_inv e
  refine Go.callV (M2 := m_A_whoStandsAt) (a := (fld a0 0)) (as := [.int x1, .int x2]) (rest := []) (v := some (.int v13)) (h1 := h) (x_A_whoStandsAt hf hI (kf_7_0 k0) e14) wv_F_181 (kf_7_0 k0) kc_1 (by decide +kernel) rfl rfl ⟨⟨Nat.le_of_ble_eq_true rfl, Nat.le_of_ble_eq_true rfl⟩, ⟨Nat.zero_le _, Nat.zero_le _⟩⟩ (Nat.le_of_ble_eq_true rfl) ?_
  show Go l D ad aC _ _ m_F_metreOf 87 [some (.ref a0), some (.int x1), some (.int x2), some (.int x3)] [.int v13] h 0 0
  obtain rfl := Option.some.inj e
  exact Go.iret (M := m_F_metreOf) rfl (by decide) (by decide) (by decide +kernel)
def f_F_dealerOf (h : HP) (a0 : Nat) (x1 : Int32) (x2 : Int32) : Option (Res × HP) :=
  (f_S_hasDealer h (fld (fld a0 0) 0) x1).bind fun v1 =>
  if v1 = 0 then some (.inr "java/lang/IndexOutOfBoundsException", h) else
  (f_F_inRange h x2 (0 : Int32) (11 : Int32)).bind fun v4 =>
  if v4 = 0 then some (.inr "java/lang/IllegalArgumentException", h) else
  if x2 = 0 then
    if ib x1 10 = true then
    some (.inl (some (.int (h (fld (fld (fld a0 0) 0) 2) x1.toNatClampNeg))), h)
    else none
  else
    if x2 = 1 then
      if ib x1 10 = true then
      some (.inl (some (.int (h (fld (fld (fld a0 0) 0) 3) x1.toNatClampNeg))), h)
      else none
    else
      if x2 = 2 then
        if ib x1 10 = true then
        some (.inl (some (.int (h (fld (fld (fld a0 0) 0) 4) x1.toNatClampNeg))), h)
        else none
      else
        if x2 = 3 then
          if ib x1 10 = true then
          some (.inl (some (.int (h (fld (fld (fld a0 0) 0) 5) x1.toNatClampNeg))), h)
          else none
        else
          if x2 = 4 then
            if ib x1 10 = true then
            some (.inl (some (.int (h (fld (fld (fld a0 0) 0) 6) x1.toNatClampNeg))), h)
            else none
          else
            if x2 = 5 then
              (f_W_plugsHad h (fld (fld a0 0) 1) x1).bind fun v18 =>
              some (.inl (some (.int v18)), h)
            else
              if x2 = 6 then
                (f_A_plugsLacking h (fld a0 0) x1).bind fun v21 =>
                some (.inl (some (.int v21)), h)
              else
                if x2 = 7 then
                  (f_A_rentOf h (fld a0 0) x1).bind fun v24 =>
                  some (.inl (some (.int v24)), h)
                else
                  if x2 = 8 then
                    if ib x1 10 = true then
                    some (.inl (some (.int (h (fld (fld (fld a0 0) 0) 7) x1.toNatClampNeg))), h)
                    else none
                  else
                    if x2 = 9 then
                      (f_A_endsOf h (fld a0 0) x1).bind fun v29 =>
                      some (.inl (some (.int v29)), h)
                    else
                      if x2 = 10 then
                        (f_A_neighbours h (fld a0 0) x1).bind fun v32 =>
                        some (.inl (some (.int v32)), h)
                      else
                        (f_A_rivals h (fld a0 0) x1).bind fun v34 =>
                        some (.inl (some (.int v34)), h)
set_option maxHeartbeats 1000000 in
theorem x_F_dealerOf {l : Launch} {D : va_G} {ad : Nat → Nat} {aC : Nat → ClassId} (hf : l.flags = flags0) (hI : Inj ad) {h : HP} {a0 : Nat} {x1 : Int32} {x2 : Int32} {r : Res × HP} (k0 : knd a0 = 7) (e : f_F_dealerOf h a0 x1 x2 = some r) : CT l D ad aC (mr m_F_dealerOf r.1) [.ref a0, .int x1, .int x2] h r.1 r.2 := by
  refine CT.ofGoR (by decide +kernel) rfl (Nat.le_of_ble_eq_true rfl) ?_
  unfold f_F_dealerOf at e
  show Go l D ad aC _ _ m_F_dealerOf 0 [some (.ref a0), some (.int x1), some (.int x2), none] [] h 0 0
  refine Go.run (pc' := 1) [.aload_n 0] (ls' := [some (.ref a0), some (.int x1), some (.int x2), none]) (st' := [.ref a0]) (by decide +kernel) rfl rfl ?_
  refine Go.getR fo_F_10 k0 (by decide +kernel) ?_
  refine Go.getR fo_F_89 (kf_7_0 k0) (by decide +kernel) ?_
  refine Go.run (pc' := 10) [.astore_n 3, .aload_n 3, .iload_n 1] (ls' := [some (.ref a0), some (.int x1), some (.int x2), some (.ref (fld (fld a0 0) 0))]) (st' := [.int x1, .ref (fld (fld a0 0) 0)]) (by decide +kernel) rfl rfl ?_
  obtain ⟨v1, e2, e⟩ := bd_inv e
  refine Go.callV (M2 := m_S_hasDealer) (a := (fld (fld a0 0) 0)) (as := [.int x1]) (rest := []) (v := some (.int v1)) (h1 := h) (x_S_hasDealer hf hI (kf_1_0 (kf_7_0 k0)) e2) wv_F_184 (kf_1_0 (kf_7_0 k0)) kc_6 (by decide +kernel) rfl rfl ⟨⟨Nat.le_of_ble_eq_true rfl, Nat.le_of_ble_eq_true rfl⟩, ⟨Nat.zero_le _, Nat.zero_le _⟩⟩ (Nat.le_of_ble_eq_true rfl) ?_
  show Go l D ad aC _ _ m_F_dealerOf 13 [some (.ref a0), some (.int x1), some (.int x2), some (.ref (fld (fld a0 0) 0))] [.int v1] h 0 0
  rcases Decidable.em (v1 = 0) with c3 | c3
  · replace e := ite_t c3 e
    obtain rfl := Option.some.inj e
    exact Go.mr (res := .inr "java/lang/IndexOutOfBoundsException") (Go.thrown (M := mr m_F_dealerOf (.inr "java/lang/IndexOutOfBoundsException")) (M2 := mr m_F_needExists (.inr "java/lang/IndexOutOfBoundsException")) (as := [.int v1]) (rest := []) (h1 := h) (by have q := x_F_needExists (l := l) (D := D) (ad := ad) (aC := aC) hf (h := h) (b := v1); rw [if_pos c3] at q; exact q) (WS.mr ws_F_142) (by decide +kernel) rfl rfl ⟨⟨Nat.le_of_ble_eq_true rfl, Nat.le_of_ble_eq_true rfl⟩, ⟨Nat.le_of_ble_eq_true rfl, Nat.le_of_ble_eq_true rfl⟩⟩ (Nat.le_of_ble_eq_true rfl) rfl (by decide) (by decide) (by decide))
  replace e := ite_f c3 e
  refine Go.callS (M2 := mr m_F_needExists (.inl none)) (as := [.int v1]) (rest := []) (v := none) (h1 := h) (by have q := x_F_needExists (l := l) (D := D) (ad := ad) (aC := aC) hf (h := h) (b := v1); rw [if_neg c3] at q; exact q) (WS.mr ws_F_142) (by decide +kernel) rfl rfl ⟨⟨Nat.le_of_ble_eq_true rfl, Nat.le_of_ble_eq_true rfl⟩, ⟨Nat.zero_le _, Nat.zero_le _⟩⟩ (Nat.le_of_ble_eq_true rfl) ?_
  show Go l D ad aC _ _ m_F_dealerOf 16 [some (.ref a0), some (.int x1), some (.int x2), some (.ref (fld (fld a0 0) 0))] [] h 0 0
  refine Go.run (pc' := 20) [.iload_n 2, .iconst 0, .bipush (11)] (ls' := [some (.ref a0), some (.int x1), some (.int x2), some (.ref (fld (fld a0 0) 0))]) (st' := [.int (11 : Int32), .int (0 : Int32), .int x2]) (by decide +kernel) rfl rfl ?_
  obtain ⟨v4, e5, e⟩ := bd_inv e
  refine Go.callS (M2 := m_F_inRange) (as := [.int x2, .int (0 : Int32), .int (11 : Int32)]) (rest := []) (v := some (.int v4)) (h1 := h) (x_F_inRange hf hI  e5) ws_F_44 (by decide +kernel) rfl rfl ⟨⟨Nat.le_of_ble_eq_true rfl, Nat.le_of_ble_eq_true rfl⟩, ⟨Nat.zero_le _, Nat.zero_le _⟩⟩ (Nat.le_of_ble_eq_true rfl) ?_
  show Go l D ad aC _ _ m_F_dealerOf 23 [some (.ref a0), some (.int x1), some (.int x2), some (.ref (fld (fld a0 0) 0))] [.int v4] h 0 0
  rcases Decidable.em (v4 = 0) with c6 | c6
  · replace e := ite_t c6 e
    obtain rfl := Option.some.inj e
    exact Go.mr (res := .inr "java/lang/IllegalArgumentException") (Go.thrown (M := mr m_F_dealerOf (.inr "java/lang/IllegalArgumentException")) (M2 := mr m_F_needArgument (.inr "java/lang/IllegalArgumentException")) (as := [.int v4]) (rest := []) (h1 := h) (by have q := x_F_needArgument (l := l) (D := D) (ad := ad) (aC := aC) hf (h := h) (b := v4); rw [if_pos c6] at q; exact q) (WS.mr ws_F_48) (by decide +kernel) rfl rfl ⟨⟨Nat.le_of_ble_eq_true rfl, Nat.le_of_ble_eq_true rfl⟩, ⟨Nat.le_of_ble_eq_true rfl, Nat.le_of_ble_eq_true rfl⟩⟩ (Nat.le_of_ble_eq_true rfl) rfl (by decide) (by decide) (by decide))
  replace e := ite_f c6 e
  refine Go.callS (M2 := mr m_F_needArgument (.inl none)) (as := [.int v4]) (rest := []) (v := none) (h1 := h) (by have q := x_F_needArgument (l := l) (D := D) (ad := ad) (aC := aC) hf (h := h) (b := v4); rw [if_neg c6] at q; exact q) (WS.mr ws_F_48) (by decide +kernel) rfl rfl ⟨⟨Nat.le_of_ble_eq_true rfl, Nat.le_of_ble_eq_true rfl⟩, ⟨Nat.zero_le _, Nat.zero_le _⟩⟩ (Nat.le_of_ble_eq_true rfl) ?_
  show Go l D ad aC _ _ m_F_dealerOf 26 [some (.ref a0), some (.int x1), some (.int x2), some (.ref (fld (fld a0 0) 0))] [] h 0 0
  refine Go.run (pc' := 27) [.iload_n 2] (ls' := [some (.ref a0), some (.int x1), some (.int x2), some (.ref (fld (fld a0 0) 0))]) (st' := [.int x2]) (by decide +kernel) rfl rfl ?_
  rcases Decidable.em (x2 = 0) with c7 | c7
  · replace e := ite_t c7 e
    refine Go.tsIn (dflt := 147) (lo := 0) (hi := 10) (offs := #[57, 64, 71, 78, 85, 92, 104, 113, 122, 129, 138]) (len := 57) (off := 57) (tgt := 84) 0 (by decide +kernel) (by rw [c7]; decide) (by decide) (by decide) (by decide) (by decide) ?_
    refine Go.run (pc' := 85) [.aload_n 3] (ls' := [some (.ref a0), some (.int x1), some (.int x2), some (.ref (fld (fld a0 0) 0))]) (st' := [.ref (fld (fld a0 0) 0)]) (by decide +kernel) rfl rfl ?_
    refine Go.getR fo_F_187 (kf_1_0 (kf_7_0 k0)) (by decide +kernel) ?_
    refine Go.run (pc' := 89) [.iload_n 1] (ls' := [some (.ref a0), some (.int x1), some (.int x2), some (.ref (fld (fld a0 0) 0))]) (st' := [.int x1, .ref (fld (fld (fld a0 0) 0) 2)]) (by decide +kernel) rfl rfl ?_
    obtain ⟨g8, e⟩ := gd_inv e
    refine Go.iald (kf_6_j 2 (kf_1_0 (kf_7_0 k0)) (by decide)) (al_6_j 2 (kf_1_0 (kf_7_0 k0)) (by decide) rfl) g8 (by decide +kernel) ?_
    obtain rfl := Option.some.inj e
    exact Go.iret (M := m_F_dealerOf) rfl (by decide) (by decide) (by decide +kernel)
  replace e := ite_f c7 e
  rcases Decidable.em (x2 = 1) with c9 | c9
  · replace e := ite_t c9 e
    refine Go.tsIn (dflt := 147) (lo := 0) (hi := 10) (offs := #[57, 64, 71, 78, 85, 92, 104, 113, 122, 129, 138]) (len := 57) (off := 64) (tgt := 91) 1 (by decide +kernel) (by rw [c9]; decide) (by decide) (by decide) (by decide) (by decide) ?_
    refine Go.run (pc' := 92) [.aload_n 3] (ls' := [some (.ref a0), some (.int x1), some (.int x2), some (.ref (fld (fld a0 0) 0))]) (st' := [.ref (fld (fld a0 0) 0)]) (by decide +kernel) rfl rfl ?_
    refine Go.getR fo_F_190 (kf_1_0 (kf_7_0 k0)) (by decide +kernel) ?_
    refine Go.run (pc' := 96) [.iload_n 1] (ls' := [some (.ref a0), some (.int x1), some (.int x2), some (.ref (fld (fld a0 0) 0))]) (st' := [.int x1, .ref (fld (fld (fld a0 0) 0) 3)]) (by decide +kernel) rfl rfl ?_
    obtain ⟨g10, e⟩ := gd_inv e
    refine Go.iald (kf_6_j 3 (kf_1_0 (kf_7_0 k0)) (by decide)) (al_6_j 3 (kf_1_0 (kf_7_0 k0)) (by decide) rfl) g10 (by decide +kernel) ?_
    obtain rfl := Option.some.inj e
    exact Go.iret (M := m_F_dealerOf) rfl (by decide) (by decide) (by decide +kernel)
  replace e := ite_f c9 e
  rcases Decidable.em (x2 = 2) with c11 | c11
  · replace e := ite_t c11 e
    refine Go.tsIn (dflt := 147) (lo := 0) (hi := 10) (offs := #[57, 64, 71, 78, 85, 92, 104, 113, 122, 129, 138]) (len := 57) (off := 71) (tgt := 98) 2 (by decide +kernel) (by rw [c11]; decide) (by decide) (by decide) (by decide) (by decide) ?_
    refine Go.run (pc' := 99) [.aload_n 3] (ls' := [some (.ref a0), some (.int x1), some (.int x2), some (.ref (fld (fld a0 0) 0))]) (st' := [.ref (fld (fld a0 0) 0)]) (by decide +kernel) rfl rfl ?_
    refine Go.getR fo_F_193 (kf_1_0 (kf_7_0 k0)) (by decide +kernel) ?_
    refine Go.run (pc' := 103) [.iload_n 1] (ls' := [some (.ref a0), some (.int x1), some (.int x2), some (.ref (fld (fld a0 0) 0))]) (st' := [.int x1, .ref (fld (fld (fld a0 0) 0) 4)]) (by decide +kernel) rfl rfl ?_
    obtain ⟨g12, e⟩ := gd_inv e
    refine Go.iald (kf_6_j 4 (kf_1_0 (kf_7_0 k0)) (by decide)) (al_6_j 4 (kf_1_0 (kf_7_0 k0)) (by decide) rfl) g12 (by decide +kernel) ?_
    obtain rfl := Option.some.inj e
    exact Go.iret (M := m_F_dealerOf) rfl (by decide) (by decide) (by decide +kernel)
  replace e := ite_f c11 e
  rcases Decidable.em (x2 = 3) with c13 | c13
  · replace e := ite_t c13 e
    refine Go.tsIn (dflt := 147) (lo := 0) (hi := 10) (offs := #[57, 64, 71, 78, 85, 92, 104, 113, 122, 129, 138]) (len := 57) (off := 78) (tgt := 105) 3 (by decide +kernel) (by rw [c13]; decide) (by decide) (by decide) (by decide) (by decide) ?_
    refine Go.run (pc' := 106) [.aload_n 3] (ls' := [some (.ref a0), some (.int x1), some (.int x2), some (.ref (fld (fld a0 0) 0))]) (st' := [.ref (fld (fld a0 0) 0)]) (by decide +kernel) rfl rfl ?_
    refine Go.getR fo_F_196 (kf_1_0 (kf_7_0 k0)) (by decide +kernel) ?_
    refine Go.run (pc' := 110) [.iload_n 1] (ls' := [some (.ref a0), some (.int x1), some (.int x2), some (.ref (fld (fld a0 0) 0))]) (st' := [.int x1, .ref (fld (fld (fld a0 0) 0) 5)]) (by decide +kernel) rfl rfl ?_
    obtain ⟨g14, e⟩ := gd_inv e
    refine Go.iald (kf_6_j 5 (kf_1_0 (kf_7_0 k0)) (by decide)) (al_6_j 5 (kf_1_0 (kf_7_0 k0)) (by decide) rfl) g14 (by decide +kernel) ?_
    obtain rfl := Option.some.inj e
    exact Go.iret (M := m_F_dealerOf) rfl (by decide) (by decide) (by decide +kernel)
  replace e := ite_f c13 e
  rcases Decidable.em (x2 = 4) with c15 | c15
  · replace e := ite_t c15 e
    refine Go.tsIn (dflt := 147) (lo := 0) (hi := 10) (offs := #[57, 64, 71, 78, 85, 92, 104, 113, 122, 129, 138]) (len := 57) (off := 85) (tgt := 112) 4 (by decide +kernel) (by rw [c15]; decide) (by decide) (by decide) (by decide) (by decide) ?_
    refine Go.run (pc' := 113) [.aload_n 3] (ls' := [some (.ref a0), some (.int x1), some (.int x2), some (.ref (fld (fld a0 0) 0))]) (st' := [.ref (fld (fld a0 0) 0)]) (by decide +kernel) rfl rfl ?_
    refine Go.getR fo_F_199 (kf_1_0 (kf_7_0 k0)) (by decide +kernel) ?_
    refine Go.run (pc' := 117) [.iload_n 1] (ls' := [some (.ref a0), some (.int x1), some (.int x2), some (.ref (fld (fld a0 0) 0))]) (st' := [.int x1, .ref (fld (fld (fld a0 0) 0) 6)]) (by decide +kernel) rfl rfl ?_
    obtain ⟨g16, e⟩ := gd_inv e
    refine Go.iald (kf_6_j 6 (kf_1_0 (kf_7_0 k0)) (by decide)) (al_6_j 6 (kf_1_0 (kf_7_0 k0)) (by decide) rfl) g16 (by decide +kernel) ?_
    obtain rfl := Option.some.inj e
    exact Go.iret (M := m_F_dealerOf) rfl (by decide) (by decide) (by decide +kernel)
  replace e := ite_f c15 e
  rcases Decidable.em (x2 = 5) with c17 | c17
  · replace e := ite_t c17 e
    refine Go.tsIn (dflt := 147) (lo := 0) (hi := 10) (offs := #[57, 64, 71, 78, 85, 92, 104, 113, 122, 129, 138]) (len := 57) (off := 92) (tgt := 119) 5 (by decide +kernel) (by rw [c17]; decide) (by decide) (by decide) (by decide) (by decide) ?_
    refine Go.run (pc' := 120) [.aload_n 0] (ls' := [some (.ref a0), some (.int x1), some (.int x2), some (.ref (fld (fld a0 0) 0))]) (st' := [.ref a0]) (by decide +kernel) rfl rfl ?_
    refine Go.getR fo_F_10 k0 (by decide +kernel) ?_
    refine Go.getR fo_F_172 (kf_7_0 k0) (by decide +kernel) ?_
    refine Go.run (pc' := 127) [.iload_n 1] (ls' := [some (.ref a0), some (.int x1), some (.int x2), some (.ref (fld (fld a0 0) 0))]) (st' := [.int x1, .ref (fld (fld a0 0) 1)]) (by decide +kernel) rfl rfl ?_
    obtain ⟨v18, e19, e⟩ := bd_inv e
    refine Go.callV (M2 := m_W_plugsHad) (a := (fld (fld a0 0) 1)) (as := [.int x1]) (rest := []) (v := some (.int v18)) (h1 := h) (x_W_plugsHad hf hI (kf_1_1 (kf_7_0 k0)) e19) wv_F_202 (kf_1_1 (kf_7_0 k0)) kc_4 (by decide +kernel) rfl rfl ⟨⟨Nat.le_of_ble_eq_true rfl, Nat.le_of_ble_eq_true rfl⟩, ⟨Nat.zero_le _, Nat.zero_le _⟩⟩ (Nat.le_of_ble_eq_true rfl) ?_
    show Go l D ad aC _ _ m_F_dealerOf 130 [some (.ref a0), some (.int x1), some (.int x2), some (.ref (fld (fld a0 0) 0))] [.int v18] h 0 0
    obtain rfl := Option.some.inj e
    exact Go.iret (M := m_F_dealerOf) rfl (by decide) (by decide) (by decide +kernel)
  replace e := ite_f c17 e
  rcases Decidable.em (x2 = 6) with c20 | c20
  · replace e := ite_t c20 e
    refine Go.tsIn (dflt := 147) (lo := 0) (hi := 10) (offs := #[57, 64, 71, 78, 85, 92, 104, 113, 122, 129, 138]) (len := 57) (off := 104) (tgt := 131) 6 (by decide +kernel) (by rw [c20]; decide) (by decide) (by decide) (by decide) (by decide) ?_
    refine Go.run (pc' := 132) [.aload_n 0] (ls' := [some (.ref a0), some (.int x1), some (.int x2), some (.ref (fld (fld a0 0) 0))]) (st' := [.ref a0]) (by decide +kernel) rfl rfl ?_
    refine Go.getR fo_F_10 k0 (by decide +kernel) ?_
    refine Go.run (pc' := 136) [.iload_n 1] (ls' := [some (.ref a0), some (.int x1), some (.int x2), some (.ref (fld (fld a0 0) 0))]) (st' := [.int x1, .ref (fld a0 0)]) (by decide +kernel) rfl rfl ?_
    obtain ⟨v21, e22, e⟩ := bd_inv e
    refine Go.callV (M2 := m_A_plugsLacking) (a := (fld a0 0)) (as := [.int x1]) (rest := []) (v := some (.int v21)) (h1 := h) (x_A_plugsLacking hf hI (kf_7_0 k0) e22) wv_F_205 (kf_7_0 k0) kc_1 (by decide +kernel) rfl rfl ⟨⟨Nat.le_of_ble_eq_true rfl, Nat.le_of_ble_eq_true rfl⟩, ⟨Nat.zero_le _, Nat.zero_le _⟩⟩ (Nat.le_of_ble_eq_true rfl) ?_
    show Go l D ad aC _ _ m_F_dealerOf 139 [some (.ref a0), some (.int x1), some (.int x2), some (.ref (fld (fld a0 0) 0))] [.int v21] h 0 0
    obtain rfl := Option.some.inj e
    exact Go.iret (M := m_F_dealerOf) rfl (by decide) (by decide) (by decide +kernel)
  replace e := ite_f c20 e
  rcases Decidable.em (x2 = 7) with c23 | c23
  · replace e := ite_t c23 e
    refine Go.tsIn (dflt := 147) (lo := 0) (hi := 10) (offs := #[57, 64, 71, 78, 85, 92, 104, 113, 122, 129, 138]) (len := 57) (off := 113) (tgt := 140) 7 (by decide +kernel) (by rw [c23]; decide) (by decide) (by decide) (by decide) (by decide) ?_
    refine Go.run (pc' := 141) [.aload_n 0] (ls' := [some (.ref a0), some (.int x1), some (.int x2), some (.ref (fld (fld a0 0) 0))]) (st' := [.ref a0]) (by decide +kernel) rfl rfl ?_
    refine Go.getR fo_F_10 k0 (by decide +kernel) ?_
    refine Go.run (pc' := 145) [.iload_n 1] (ls' := [some (.ref a0), some (.int x1), some (.int x2), some (.ref (fld (fld a0 0) 0))]) (st' := [.int x1, .ref (fld a0 0)]) (by decide +kernel) rfl rfl ?_
    obtain ⟨v24, e25, e⟩ := bd_inv e
    refine Go.callV (M2 := m_A_rentOf) (a := (fld a0 0)) (as := [.int x1]) (rest := []) (v := some (.int v24)) (h1 := h) (x_A_rentOf hf hI (kf_7_0 k0) e25) wv_F_208 (kf_7_0 k0) kc_1 (by decide +kernel) rfl rfl ⟨⟨Nat.le_of_ble_eq_true rfl, Nat.le_of_ble_eq_true rfl⟩, ⟨Nat.zero_le _, Nat.zero_le _⟩⟩ (Nat.le_of_ble_eq_true rfl) ?_
    show Go l D ad aC _ _ m_F_dealerOf 148 [some (.ref a0), some (.int x1), some (.int x2), some (.ref (fld (fld a0 0) 0))] [.int v24] h 0 0
    obtain rfl := Option.some.inj e
    exact Go.iret (M := m_F_dealerOf) rfl (by decide) (by decide) (by decide +kernel)
  replace e := ite_f c23 e
  rcases Decidable.em (x2 = 8) with c26 | c26
  · replace e := ite_t c26 e
    refine Go.tsIn (dflt := 147) (lo := 0) (hi := 10) (offs := #[57, 64, 71, 78, 85, 92, 104, 113, 122, 129, 138]) (len := 57) (off := 122) (tgt := 149) 8 (by decide +kernel) (by rw [c26]; decide) (by decide) (by decide) (by decide) (by decide) ?_
    refine Go.run (pc' := 150) [.aload_n 3] (ls' := [some (.ref a0), some (.int x1), some (.int x2), some (.ref (fld (fld a0 0) 0))]) (st' := [.ref (fld (fld a0 0) 0)]) (by decide +kernel) rfl rfl ?_
    refine Go.getR fo_F_211 (kf_1_0 (kf_7_0 k0)) (by decide +kernel) ?_
    refine Go.run (pc' := 154) [.iload_n 1] (ls' := [some (.ref a0), some (.int x1), some (.int x2), some (.ref (fld (fld a0 0) 0))]) (st' := [.int x1, .ref (fld (fld (fld a0 0) 0) 7)]) (by decide +kernel) rfl rfl ?_
    obtain ⟨g27, e⟩ := gd_inv e
    refine Go.iald (kf_6_j 7 (kf_1_0 (kf_7_0 k0)) (by decide)) (al_6_j 7 (kf_1_0 (kf_7_0 k0)) (by decide) rfl) g27 (by decide +kernel) ?_
    obtain rfl := Option.some.inj e
    exact Go.iret (M := m_F_dealerOf) rfl (by decide) (by decide) (by decide +kernel)
  replace e := ite_f c26 e
  rcases Decidable.em (x2 = 9) with c28 | c28
  · replace e := ite_t c28 e
    refine Go.tsIn (dflt := 147) (lo := 0) (hi := 10) (offs := #[57, 64, 71, 78, 85, 92, 104, 113, 122, 129, 138]) (len := 57) (off := 129) (tgt := 156) 9 (by decide +kernel) (by rw [c28]; decide) (by decide) (by decide) (by decide) (by decide) ?_
    refine Go.run (pc' := 157) [.aload_n 0] (ls' := [some (.ref a0), some (.int x1), some (.int x2), some (.ref (fld (fld a0 0) 0))]) (st' := [.ref a0]) (by decide +kernel) rfl rfl ?_
    refine Go.getR fo_F_10 k0 (by decide +kernel) ?_
    refine Go.run (pc' := 161) [.iload_n 1] (ls' := [some (.ref a0), some (.int x1), some (.int x2), some (.ref (fld (fld a0 0) 0))]) (st' := [.int x1, .ref (fld a0 0)]) (by decide +kernel) rfl rfl ?_
    obtain ⟨v29, e30, e⟩ := bd_inv e
    refine Go.callV (M2 := m_A_endsOf) (a := (fld a0 0)) (as := [.int x1]) (rest := []) (v := some (.int v29)) (h1 := h) (x_A_endsOf hf hI (kf_7_0 k0) e30) wv_F_214 (kf_7_0 k0) kc_1 (by decide +kernel) rfl rfl ⟨⟨Nat.le_of_ble_eq_true rfl, Nat.le_of_ble_eq_true rfl⟩, ⟨Nat.zero_le _, Nat.zero_le _⟩⟩ (Nat.le_of_ble_eq_true rfl) ?_
    show Go l D ad aC _ _ m_F_dealerOf 164 [some (.ref a0), some (.int x1), some (.int x2), some (.ref (fld (fld a0 0) 0))] [.int v29] h 0 0
    obtain rfl := Option.some.inj e
    exact Go.iret (M := m_F_dealerOf) rfl (by decide) (by decide) (by decide +kernel)
  replace e := ite_f c28 e
  rcases Decidable.em (x2 = 10) with c31 | c31
  · replace e := ite_t c31 e
    refine Go.tsIn (dflt := 147) (lo := 0) (hi := 10) (offs := #[57, 64, 71, 78, 85, 92, 104, 113, 122, 129, 138]) (len := 57) (off := 138) (tgt := 165) 10 (by decide +kernel) (by rw [c31]; decide) (by decide) (by decide) (by decide) (by decide) ?_
    refine Go.run (pc' := 166) [.aload_n 0] (ls' := [some (.ref a0), some (.int x1), some (.int x2), some (.ref (fld (fld a0 0) 0))]) (st' := [.ref a0]) (by decide +kernel) rfl rfl ?_
    refine Go.getR fo_F_10 k0 (by decide +kernel) ?_
    refine Go.run (pc' := 170) [.iload_n 1] (ls' := [some (.ref a0), some (.int x1), some (.int x2), some (.ref (fld (fld a0 0) 0))]) (st' := [.int x1, .ref (fld a0 0)]) (by decide +kernel) rfl rfl ?_
    obtain ⟨v32, e33, e⟩ := bd_inv e
    refine Go.callV (M2 := m_A_neighbours) (a := (fld a0 0)) (as := [.int x1]) (rest := []) (v := some (.int v32)) (h1 := h) (x_A_neighbours hf hI (kf_7_0 k0) e33) wv_F_217 (kf_7_0 k0) kc_1 (by decide +kernel) rfl rfl ⟨⟨Nat.le_of_ble_eq_true rfl, Nat.le_of_ble_eq_true rfl⟩, ⟨Nat.zero_le _, Nat.zero_le _⟩⟩ (Nat.le_of_ble_eq_true rfl) ?_
    show Go l D ad aC _ _ m_F_dealerOf 173 [some (.ref a0), some (.int x1), some (.int x2), some (.ref (fld (fld a0 0) 0))] [.int v32] h 0 0
    obtain rfl := Option.some.inj e
    exact Go.iret (M := m_F_dealerOf) rfl (by decide) (by decide) (by decide +kernel)
  replace e := ite_f c31 e
  refine Go.tsOut (dflt := 147) (lo := 0) (hi := 10) (offs := #[57, 64, 71, 78, 85, 92, 104, 113, 122, 129, 138]) (len := 57) (tgt := 174) (by decide +kernel) (by have zc7 := lv_neT c7 (a := 0) rfl; have zc9 := lv_neT c9 (a := 1) rfl; have zc11 := lv_neT c11 (a := 2) rfl; have zc13 := lv_neT c13 (a := 3) rfl; have zc15 := lv_neT c15 (a := 4) rfl; have zc17 := lv_neT c17 (a := 5) rfl; have zc20 := lv_neT c20 (a := 6) rfl; have zc23 := lv_neT c23 (a := 7) rfl; have zc26 := lv_neT c26 (a := 8) rfl; have zc28 := lv_neT c28 (a := 9) rfl; have zc31 := lv_neT c31 (a := 10) rfl; omega) (by decide) ?_
  refine Go.run (pc' := 175) [.aload_n 0] (ls' := [some (.ref a0), some (.int x1), some (.int x2), some (.ref (fld (fld a0 0) 0))]) (st' := [.ref a0]) (by decide +kernel) rfl rfl ?_
  refine Go.getR fo_F_10 k0 (by decide +kernel) ?_
  refine Go.run (pc' := 179) [.iload_n 1] (ls' := [some (.ref a0), some (.int x1), some (.int x2), some (.ref (fld (fld a0 0) 0))]) (st' := [.int x1, .ref (fld a0 0)]) (by decide +kernel) rfl rfl ?_
  obtain ⟨v34, e35, e⟩ := bd_inv e
  refine Go.callV (M2 := m_A_rivals) (a := (fld a0 0)) (as := [.int x1]) (rest := []) (v := some (.int v34)) (h1 := h) (x_A_rivals hf hI (kf_7_0 k0) e35) wv_F_220 (kf_7_0 k0) kc_1 (by decide +kernel) rfl rfl ⟨⟨Nat.le_of_ble_eq_true rfl, Nat.le_of_ble_eq_true rfl⟩, ⟨Nat.zero_le _, Nat.zero_le _⟩⟩ (Nat.le_of_ble_eq_true rfl) ?_
  show Go l D ad aC _ _ m_F_dealerOf 182 [some (.ref a0), some (.int x1), some (.int x2), some (.ref (fld (fld a0 0) 0))] [.int v34] h 0 0
  obtain rfl := Option.some.inj e
  exact Go.iret (M := m_F_dealerOf) rfl (by decide) (by decide) (by decide +kernel)
def f_F_plugOf (h : HP) (a0 : Nat) (x1 : Int32) (x2 : Int32) : Option (Res × HP) :=
  (f_S_hasDealer h (fld (fld a0 0) 0) x1).bind fun v1 =>
  if v1 = 0 then some (.inr "java/lang/IndexOutOfBoundsException", h) else
  (f_F_inRange h x2 (0 : Int32) (2 : Int32)).bind fun v4 =>
  if v4 = 0 then some (.inr "java/lang/IllegalArgumentException", h) else
  (f_W_metreOfPlug h (fld (fld a0 0) 1) x1 x2).bind fun v7 =>
  some (.inl (some (.int v7)), h)
set_option maxHeartbeats 1000000 in
theorem x_F_plugOf {l : Launch} {D : va_G} {ad : Nat → Nat} {aC : Nat → ClassId} (hf : l.flags = flags0) (hI : Inj ad) {h : HP} {a0 : Nat} {x1 : Int32} {x2 : Int32} {r : Res × HP} (k0 : knd a0 = 7) (e : f_F_plugOf h a0 x1 x2 = some r) : CT l D ad aC (mr m_F_plugOf r.1) [.ref a0, .int x1, .int x2] h r.1 r.2 := by
  refine CT.ofGoR (by decide +kernel) rfl (Nat.le_of_ble_eq_true rfl) ?_
  unfold f_F_plugOf at e
  show Go l D ad aC _ _ m_F_plugOf 0 [some (.ref a0), some (.int x1), some (.int x2)] [] h 0 0
  refine Go.run (pc' := 1) [.aload_n 0] (ls' := [some (.ref a0), some (.int x1), some (.int x2)]) (st' := [.ref a0]) (by decide +kernel) rfl rfl ?_
  refine Go.getR fo_F_10 k0 (by decide +kernel) ?_
  refine Go.getR fo_F_89 (kf_7_0 k0) (by decide +kernel) ?_
  refine Go.run (pc' := 8) [.iload_n 1] (ls' := [some (.ref a0), some (.int x1), some (.int x2)]) (st' := [.int x1, .ref (fld (fld a0 0) 0)]) (by decide +kernel) rfl rfl ?_
  obtain ⟨v1, e2, e⟩ := bd_inv e
  refine Go.callV (M2 := m_S_hasDealer) (a := (fld (fld a0 0) 0)) (as := [.int x1]) (rest := []) (v := some (.int v1)) (h1 := h) (x_S_hasDealer hf hI (kf_1_0 (kf_7_0 k0)) e2) wv_F_184 (kf_1_0 (kf_7_0 k0)) kc_6 (by decide +kernel) rfl rfl ⟨⟨Nat.le_of_ble_eq_true rfl, Nat.le_of_ble_eq_true rfl⟩, ⟨Nat.zero_le _, Nat.zero_le _⟩⟩ (Nat.le_of_ble_eq_true rfl) ?_
  show Go l D ad aC _ _ m_F_plugOf 11 [some (.ref a0), some (.int x1), some (.int x2)] [.int v1] h 0 0
  rcases Decidable.em (v1 = 0) with c3 | c3
  · replace e := ite_t c3 e
    obtain rfl := Option.some.inj e
    exact Go.mr (res := .inr "java/lang/IndexOutOfBoundsException") (Go.thrown (M := mr m_F_plugOf (.inr "java/lang/IndexOutOfBoundsException")) (M2 := mr m_F_needExists (.inr "java/lang/IndexOutOfBoundsException")) (as := [.int v1]) (rest := []) (h1 := h) (by have q := x_F_needExists (l := l) (D := D) (ad := ad) (aC := aC) hf (h := h) (b := v1); rw [if_pos c3] at q; exact q) (WS.mr ws_F_142) (by decide +kernel) rfl rfl ⟨⟨Nat.le_of_ble_eq_true rfl, Nat.le_of_ble_eq_true rfl⟩, ⟨Nat.le_of_ble_eq_true rfl, Nat.le_of_ble_eq_true rfl⟩⟩ (Nat.le_of_ble_eq_true rfl) rfl (by decide) (by decide) (by decide))
  replace e := ite_f c3 e
  refine Go.callS (M2 := mr m_F_needExists (.inl none)) (as := [.int v1]) (rest := []) (v := none) (h1 := h) (by have q := x_F_needExists (l := l) (D := D) (ad := ad) (aC := aC) hf (h := h) (b := v1); rw [if_neg c3] at q; exact q) (WS.mr ws_F_142) (by decide +kernel) rfl rfl ⟨⟨Nat.le_of_ble_eq_true rfl, Nat.le_of_ble_eq_true rfl⟩, ⟨Nat.zero_le _, Nat.zero_le _⟩⟩ (Nat.le_of_ble_eq_true rfl) ?_
  show Go l D ad aC _ _ m_F_plugOf 14 [some (.ref a0), some (.int x1), some (.int x2)] [] h 0 0
  refine Go.run (pc' := 17) [.iload_n 2, .iconst 0, .iconst 2] (ls' := [some (.ref a0), some (.int x1), some (.int x2)]) (st' := [.int (2 : Int32), .int (0 : Int32), .int x2]) (by decide +kernel) rfl rfl ?_
  obtain ⟨v4, e5, e⟩ := bd_inv e
  refine Go.callS (M2 := m_F_inRange) (as := [.int x2, .int (0 : Int32), .int (2 : Int32)]) (rest := []) (v := some (.int v4)) (h1 := h) (x_F_inRange hf hI  e5) ws_F_44 (by decide +kernel) rfl rfl ⟨⟨Nat.le_of_ble_eq_true rfl, Nat.le_of_ble_eq_true rfl⟩, ⟨Nat.zero_le _, Nat.zero_le _⟩⟩ (Nat.le_of_ble_eq_true rfl) ?_
  show Go l D ad aC _ _ m_F_plugOf 20 [some (.ref a0), some (.int x1), some (.int x2)] [.int v4] h 0 0
  rcases Decidable.em (v4 = 0) with c6 | c6
  · replace e := ite_t c6 e
    obtain rfl := Option.some.inj e
    exact Go.mr (res := .inr "java/lang/IllegalArgumentException") (Go.thrown (M := mr m_F_plugOf (.inr "java/lang/IllegalArgumentException")) (M2 := mr m_F_needArgument (.inr "java/lang/IllegalArgumentException")) (as := [.int v4]) (rest := []) (h1 := h) (by have q := x_F_needArgument (l := l) (D := D) (ad := ad) (aC := aC) hf (h := h) (b := v4); rw [if_pos c6] at q; exact q) (WS.mr ws_F_48) (by decide +kernel) rfl rfl ⟨⟨Nat.le_of_ble_eq_true rfl, Nat.le_of_ble_eq_true rfl⟩, ⟨Nat.le_of_ble_eq_true rfl, Nat.le_of_ble_eq_true rfl⟩⟩ (Nat.le_of_ble_eq_true rfl) rfl (by decide) (by decide) (by decide))
  replace e := ite_f c6 e
  refine Go.callS (M2 := mr m_F_needArgument (.inl none)) (as := [.int v4]) (rest := []) (v := none) (h1 := h) (by have q := x_F_needArgument (l := l) (D := D) (ad := ad) (aC := aC) hf (h := h) (b := v4); rw [if_neg c6] at q; exact q) (WS.mr ws_F_48) (by decide +kernel) rfl rfl ⟨⟨Nat.le_of_ble_eq_true rfl, Nat.le_of_ble_eq_true rfl⟩, ⟨Nat.zero_le _, Nat.zero_le _⟩⟩ (Nat.le_of_ble_eq_true rfl) ?_
  show Go l D ad aC _ _ m_F_plugOf 23 [some (.ref a0), some (.int x1), some (.int x2)] [] h 0 0
  refine Go.run (pc' := 24) [.aload_n 0] (ls' := [some (.ref a0), some (.int x1), some (.int x2)]) (st' := [.ref a0]) (by decide +kernel) rfl rfl ?_
  refine Go.getR fo_F_10 k0 (by decide +kernel) ?_
  refine Go.getR fo_F_172 (kf_7_0 k0) (by decide +kernel) ?_
  refine Go.run (pc' := 32) [.iload_n 1, .iload_n 2] (ls' := [some (.ref a0), some (.int x1), some (.int x2)]) (st' := [.int x2, .int x1, .ref (fld (fld a0 0) 1)]) (by decide +kernel) rfl rfl ?_
  obtain ⟨v7, e8, e⟩ := bd_inv e
  refine Go.callV (M2 := m_W_metreOfPlug) (a := (fld (fld a0 0) 1)) (as := [.int x1, .int x2]) (rest := []) (v := some (.int v7)) (h1 := h) (x_W_metreOfPlug hf hI (kf_1_1 (kf_7_0 k0)) e8) wv_F_223 (kf_1_1 (kf_7_0 k0)) kc_4 (by decide +kernel) rfl rfl ⟨⟨Nat.le_of_ble_eq_true rfl, Nat.le_of_ble_eq_true rfl⟩, ⟨Nat.zero_le _, Nat.zero_le _⟩⟩ (Nat.le_of_ble_eq_true rfl) ?_
  show Go l D ad aC _ _ m_F_plugOf 35 [some (.ref a0), some (.int x1), some (.int x2)] [.int v7] h 0 0
  obtain rfl := Option.some.inj e
  exact Go.iret (M := m_F_plugOf) rfl (by decide) (by decide) (by decide +kernel)
def f_F_setting (h : HP) (a0 : Nat) (x1 : Int32) : Option (Res × HP) :=
  (f_F_inRange h x1 (0 : Int32) (5 : Int32)).bind fun v1 =>
  if v1 = 0 then some (.inr "java/lang/IllegalArgumentException", h) else
  if ib x1 6 = true then
  some (.inl (some (.int (h (fld (fld (fld a0 0) 0) 8) x1.toNatClampNeg))), h)
  else none
set_option maxHeartbeats 1000000 in
theorem x_F_setting {l : Launch} {D : va_G} {ad : Nat → Nat} {aC : Nat → ClassId} (hf : l.flags = flags0) (hI : Inj ad) {h : HP} {a0 : Nat} {x1 : Int32} {r : Res × HP} (k0 : knd a0 = 7) (e : f_F_setting h a0 x1 = some r) : CT l D ad aC (mr m_F_setting r.1) [.ref a0, .int x1] h r.1 r.2 := by
  refine CT.ofGoR (by decide +kernel) rfl (Nat.le_of_ble_eq_true rfl) ?_
  unfold f_F_setting at e
  show Go l D ad aC _ _ m_F_setting 0 [some (.ref a0), some (.int x1)] [] h 0 0
  refine Go.run (pc' := 3) [.iload_n 1, .iconst 0, .iconst 5] (ls' := [some (.ref a0), some (.int x1)]) (st' := [.int (5 : Int32), .int (0 : Int32), .int x1]) (by decide +kernel) rfl rfl ?_
  obtain ⟨v1, e2, e⟩ := bd_inv e
  refine Go.callS (M2 := m_F_inRange) (as := [.int x1, .int (0 : Int32), .int (5 : Int32)]) (rest := []) (v := some (.int v1)) (h1 := h) (x_F_inRange hf hI  e2) ws_F_44 (by decide +kernel) rfl rfl ⟨⟨Nat.le_of_ble_eq_true rfl, Nat.le_of_ble_eq_true rfl⟩, ⟨Nat.zero_le _, Nat.zero_le _⟩⟩ (Nat.le_of_ble_eq_true rfl) ?_
  show Go l D ad aC _ _ m_F_setting 6 [some (.ref a0), some (.int x1)] [.int v1] h 0 0
  rcases Decidable.em (v1 = 0) with c3 | c3
  · replace e := ite_t c3 e
    obtain rfl := Option.some.inj e
    exact Go.mr (res := .inr "java/lang/IllegalArgumentException") (Go.thrown (M := mr m_F_setting (.inr "java/lang/IllegalArgumentException")) (M2 := mr m_F_needArgument (.inr "java/lang/IllegalArgumentException")) (as := [.int v1]) (rest := []) (h1 := h) (by have q := x_F_needArgument (l := l) (D := D) (ad := ad) (aC := aC) hf (h := h) (b := v1); rw [if_pos c3] at q; exact q) (WS.mr ws_F_48) (by decide +kernel) rfl rfl ⟨⟨Nat.le_of_ble_eq_true rfl, Nat.le_of_ble_eq_true rfl⟩, ⟨Nat.le_of_ble_eq_true rfl, Nat.le_of_ble_eq_true rfl⟩⟩ (Nat.le_of_ble_eq_true rfl) rfl (by decide) (by decide) (by decide))
  replace e := ite_f c3 e
  refine Go.callS (M2 := mr m_F_needArgument (.inl none)) (as := [.int v1]) (rest := []) (v := none) (h1 := h) (by have q := x_F_needArgument (l := l) (D := D) (ad := ad) (aC := aC) hf (h := h) (b := v1); rw [if_neg c3] at q; exact q) (WS.mr ws_F_48) (by decide +kernel) rfl rfl ⟨⟨Nat.le_of_ble_eq_true rfl, Nat.le_of_ble_eq_true rfl⟩, ⟨Nat.zero_le _, Nat.zero_le _⟩⟩ (Nat.le_of_ble_eq_true rfl) ?_
  show Go l D ad aC _ _ m_F_setting 9 [some (.ref a0), some (.int x1)] [] h 0 0
  refine Go.run (pc' := 10) [.aload_n 0] (ls' := [some (.ref a0), some (.int x1)]) (st' := [.ref a0]) (by decide +kernel) rfl rfl ?_
  refine Go.getR fo_F_10 k0 (by decide +kernel) ?_
  refine Go.getR fo_F_89 (kf_7_0 k0) (by decide +kernel) ?_
  refine Go.getR fo_F_226 (kf_1_0 (kf_7_0 k0)) (by decide +kernel) ?_
  refine Go.run (pc' := 20) [.iload_n 1] (ls' := [some (.ref a0), some (.int x1)]) (st' := [.int x1, .ref (fld (fld (fld a0 0) 0) 8)]) (by decide +kernel) rfl rfl ?_
  obtain ⟨g4, e⟩ := gd_inv e
  refine Go.iald (kf_6_j 8 (kf_1_0 (kf_7_0 k0)) (by decide)) (al_6_j 8 (kf_1_0 (kf_7_0 k0)) (by decide) rfl) g4 (by decide +kernel) ?_
  obtain rfl := Option.some.inj e
  exact Go.iret (M := m_F_setting) rfl (by decide) (by decide) (by decide +kernel)
def f_F_free (h : HP) (a0 : Nat) (x1 : Int32) (x2 : Int32) : Option (Res × HP) :=
  (f_S_hasWall h (fld (fld a0 0) 0) x1).bind fun v1 =>
  if v1 = 0 then some (.inr "java/lang/IndexOutOfBoundsException", h) else
  (f_F_inRange h x2 (0 : Int32) (1 : Int32)).bind fun v4 =>
  if v4 = 0 then some (.inr "java/lang/IllegalArgumentException", h) else
  if x2 = 0 then
    (f_A_freeByMetres h (fld a0 0) x1).bind fun v10 =>
    some (.inl (some (.int v10)), h)
  else
    (f_A_freeByFrontages h (fld a0 0) x1).bind fun v8 =>
    some (.inl (some (.int v8)), h)
set_option maxHeartbeats 1000000 in
theorem x_F_free {l : Launch} {D : va_G} {ad : Nat → Nat} {aC : Nat → ClassId} (hf : l.flags = flags0) (hI : Inj ad) {h : HP} {a0 : Nat} {x1 : Int32} {x2 : Int32} {r : Res × HP} (k0 : knd a0 = 7) (e : f_F_free h a0 x1 x2 = some r) : CT l D ad aC (mr m_F_free r.1) [.ref a0, .int x1, .int x2] h r.1 r.2 := by
  refine CT.ofGoR (by decide +kernel) rfl (Nat.le_of_ble_eq_true rfl) ?_
  unfold f_F_free at e
  show Go l D ad aC _ _ m_F_free 0 [some (.ref a0), some (.int x1), some (.int x2)] [] h 0 0
  refine Go.run (pc' := 1) [.aload_n 0] (ls' := [some (.ref a0), some (.int x1), some (.int x2)]) (st' := [.ref a0]) (by decide +kernel) rfl rfl ?_
  refine Go.getR fo_F_10 k0 (by decide +kernel) ?_
  refine Go.getR fo_F_89 (kf_7_0 k0) (by decide +kernel) ?_
  refine Go.run (pc' := 8) [.iload_n 1] (ls' := [some (.ref a0), some (.int x1), some (.int x2)]) (st' := [.int x1, .ref (fld (fld a0 0) 0)]) (by decide +kernel) rfl rfl ?_
  obtain ⟨v1, e2, e⟩ := bd_inv e
  refine Go.callV (M2 := m_S_hasWall) (a := (fld (fld a0 0) 0)) (as := [.int x1]) (rest := []) (v := some (.int v1)) (h1 := h) (x_S_hasWall hf hI (kf_1_0 (kf_7_0 k0)) e2) wv_F_138 (kf_1_0 (kf_7_0 k0)) kc_6 (by decide +kernel) rfl rfl ⟨⟨Nat.le_of_ble_eq_true rfl, Nat.le_of_ble_eq_true rfl⟩, ⟨Nat.zero_le _, Nat.zero_le _⟩⟩ (Nat.le_of_ble_eq_true rfl) ?_
  show Go l D ad aC _ _ m_F_free 11 [some (.ref a0), some (.int x1), some (.int x2)] [.int v1] h 0 0
  rcases Decidable.em (v1 = 0) with c3 | c3
  · replace e := ite_t c3 e
    obtain rfl := Option.some.inj e
    exact Go.mr (res := .inr "java/lang/IndexOutOfBoundsException") (Go.thrown (M := mr m_F_free (.inr "java/lang/IndexOutOfBoundsException")) (M2 := mr m_F_needExists (.inr "java/lang/IndexOutOfBoundsException")) (as := [.int v1]) (rest := []) (h1 := h) (by have q := x_F_needExists (l := l) (D := D) (ad := ad) (aC := aC) hf (h := h) (b := v1); rw [if_pos c3] at q; exact q) (WS.mr ws_F_142) (by decide +kernel) rfl rfl ⟨⟨Nat.le_of_ble_eq_true rfl, Nat.le_of_ble_eq_true rfl⟩, ⟨Nat.le_of_ble_eq_true rfl, Nat.le_of_ble_eq_true rfl⟩⟩ (Nat.le_of_ble_eq_true rfl) rfl (by decide) (by decide) (by decide))
  replace e := ite_f c3 e
  refine Go.callS (M2 := mr m_F_needExists (.inl none)) (as := [.int v1]) (rest := []) (v := none) (h1 := h) (by have q := x_F_needExists (l := l) (D := D) (ad := ad) (aC := aC) hf (h := h) (b := v1); rw [if_neg c3] at q; exact q) (WS.mr ws_F_142) (by decide +kernel) rfl rfl ⟨⟨Nat.le_of_ble_eq_true rfl, Nat.le_of_ble_eq_true rfl⟩, ⟨Nat.zero_le _, Nat.zero_le _⟩⟩ (Nat.le_of_ble_eq_true rfl) ?_
  show Go l D ad aC _ _ m_F_free 14 [some (.ref a0), some (.int x1), some (.int x2)] [] h 0 0
  refine Go.run (pc' := 17) [.iload_n 2, .iconst 0, .iconst 1] (ls' := [some (.ref a0), some (.int x1), some (.int x2)]) (st' := [.int (1 : Int32), .int (0 : Int32), .int x2]) (by decide +kernel) rfl rfl ?_
  obtain ⟨v4, e5, e⟩ := bd_inv e
  refine Go.callS (M2 := m_F_inRange) (as := [.int x2, .int (0 : Int32), .int (1 : Int32)]) (rest := []) (v := some (.int v4)) (h1 := h) (x_F_inRange hf hI  e5) ws_F_44 (by decide +kernel) rfl rfl ⟨⟨Nat.le_of_ble_eq_true rfl, Nat.le_of_ble_eq_true rfl⟩, ⟨Nat.zero_le _, Nat.zero_le _⟩⟩ (Nat.le_of_ble_eq_true rfl) ?_
  show Go l D ad aC _ _ m_F_free 20 [some (.ref a0), some (.int x1), some (.int x2)] [.int v4] h 0 0
  rcases Decidable.em (v4 = 0) with c6 | c6
  · replace e := ite_t c6 e
    obtain rfl := Option.some.inj e
    exact Go.mr (res := .inr "java/lang/IllegalArgumentException") (Go.thrown (M := mr m_F_free (.inr "java/lang/IllegalArgumentException")) (M2 := mr m_F_needArgument (.inr "java/lang/IllegalArgumentException")) (as := [.int v4]) (rest := []) (h1 := h) (by have q := x_F_needArgument (l := l) (D := D) (ad := ad) (aC := aC) hf (h := h) (b := v4); rw [if_pos c6] at q; exact q) (WS.mr ws_F_48) (by decide +kernel) rfl rfl ⟨⟨Nat.le_of_ble_eq_true rfl, Nat.le_of_ble_eq_true rfl⟩, ⟨Nat.le_of_ble_eq_true rfl, Nat.le_of_ble_eq_true rfl⟩⟩ (Nat.le_of_ble_eq_true rfl) rfl (by decide) (by decide) (by decide))
  replace e := ite_f c6 e
  refine Go.callS (M2 := mr m_F_needArgument (.inl none)) (as := [.int v4]) (rest := []) (v := none) (h1 := h) (by have q := x_F_needArgument (l := l) (D := D) (ad := ad) (aC := aC) hf (h := h) (b := v4); rw [if_neg c6] at q; exact q) (WS.mr ws_F_48) (by decide +kernel) rfl rfl ⟨⟨Nat.le_of_ble_eq_true rfl, Nat.le_of_ble_eq_true rfl⟩, ⟨Nat.zero_le _, Nat.zero_le _⟩⟩ (Nat.le_of_ble_eq_true rfl) ?_
  show Go l D ad aC _ _ m_F_free 23 [some (.ref a0), some (.int x1), some (.int x2)] [] h 0 0
  refine Go.run (pc' := 24) [.iload_n 2] (ls' := [some (.ref a0), some (.int x1), some (.int x2)]) (st' := [.int x2]) (by decide +kernel) rfl rfl ?_
  refine Go.if_ne (off := 14) (tgt := 38) (by decide +kernel) (by decide) (fun c7 => ?_) (fun c7 => ?_)
  · replace e := ite_f c7 e
    refine Go.run (pc' := 39) [.aload_n 0] (ls' := [some (.ref a0), some (.int x1), some (.int x2)]) (st' := [.ref a0]) (by decide +kernel) rfl rfl ?_
    refine Go.getR fo_F_10 k0 (by decide +kernel) ?_
    refine Go.run (pc' := 43) [.iload_n 1] (ls' := [some (.ref a0), some (.int x1), some (.int x2)]) (st' := [.int x1, .ref (fld a0 0)]) (by decide +kernel) rfl rfl ?_
    obtain ⟨v8, e9, e⟩ := bd_inv e
    refine Go.callV (M2 := m_A_freeByFrontages) (a := (fld a0 0)) (as := [.int x1]) (rest := []) (v := some (.int v8)) (h1 := h) (x_A_freeByFrontages hf hI (kf_7_0 k0) e9) wv_F_232 (kf_7_0 k0) kc_1 (by decide +kernel) rfl rfl ⟨⟨Nat.le_of_ble_eq_true rfl, Nat.le_of_ble_eq_true rfl⟩, ⟨Nat.zero_le _, Nat.zero_le _⟩⟩ (Nat.le_of_ble_eq_true rfl) ?_
    show Go l D ad aC _ _ m_F_free 46 [some (.ref a0), some (.int x1), some (.int x2)] [.int v8] h 0 0
    obtain rfl := Option.some.inj e
    exact Go.iret (M := m_F_free) rfl (by decide) (by decide) (by decide +kernel)
  · replace e := ite_t c7 e
    refine Go.run (pc' := 28) [.aload_n 0] (ls' := [some (.ref a0), some (.int x1), some (.int x2)]) (st' := [.ref a0]) (by decide +kernel) rfl rfl ?_
    refine Go.getR fo_F_10 k0 (by decide +kernel) ?_
    refine Go.run (pc' := 32) [.iload_n 1] (ls' := [some (.ref a0), some (.int x1), some (.int x2)]) (st' := [.int x1, .ref (fld a0 0)]) (by decide +kernel) rfl rfl ?_
    obtain ⟨v10, e11, e⟩ := bd_inv e
    refine Go.callV (M2 := m_A_freeByMetres) (a := (fld a0 0)) (as := [.int x1]) (rest := []) (v := some (.int v10)) (h1 := h) (x_A_freeByMetres hf hI (kf_7_0 k0) e11) wv_F_229 (kf_7_0 k0) kc_1 (by decide +kernel) rfl rfl ⟨⟨Nat.le_of_ble_eq_true rfl, Nat.le_of_ble_eq_true rfl⟩, ⟨Nat.zero_le _, Nat.zero_le _⟩⟩ (Nat.le_of_ble_eq_true rfl) ?_
    show Go l D ad aC _ _ m_F_free 35 [some (.ref a0), some (.int x1), some (.int x2)] [.int v10] h 0 0
    refine Go.goto (off := 11) (tgt := 46) (by decide +kernel) (by decide) ?_
    obtain rfl := Option.some.inj e
    exact Go.iret (M := m_F_free) rfl (by decide) (by decide) (by decide +kernel)
def f_F_wall_26  (a0 : Nat) (x1 : Int32) (s0 : Int32) (h : HP) : Option (Res × HP) :=
  if s0 = 0 then some (.inr "java/lang/IllegalStateException", h) else
  (f_P_remember h (fld a0 2) (fld (fld a0 0) 0)).bind fun v2 =>
  (f_A_openWall v2 (fld a0 0) x1).bind fun v4 =>
  some (.inl (some (.int v4.1)), v4.2)
set_option maxHeartbeats 1000000 in
theorem x_F_wall_26 {l : Launch} {D : va_G} {ad : Nat → Nat} {aC : Nat → ClassId} (hf : l.flags = flags0) (hI : Inj ad) {a0 : Nat} {x1 : Int32} {s0 : Int32} {h : HP} {r : Res × HP} (k0 : knd a0 = 7) (e : f_F_wall_26 a0 x1 s0 h = some r) : Go l D ad aC (rmk (mr m_F_wall r.1)) (QM D ad aC (mr m_F_wall r.1) r.1 r.2) m_F_wall 26 [some (.ref a0), some (.int x1)] [.int s0] h 0 0 := by
  unfold f_F_wall_26 at e
  rcases Decidable.em (s0 = 0) with c1 | c1
  · replace e := ite_t c1 e
    obtain rfl := Option.some.inj e
    exact Go.mr (res := .inr "java/lang/IllegalStateException") (Go.thrown (M := mr m_F_wall (.inr "java/lang/IllegalStateException")) (M2 := mr m_F_needState (.inr "java/lang/IllegalStateException")) (as := [.int s0]) (rest := []) (h1 := h) (by have q := x_F_needState (l := l) (D := D) (ad := ad) (aC := aC) hf (h := h) (b := s0); rw [if_pos c1] at q; exact q) (WS.mr ws_F_56) (by decide +kernel) rfl rfl ⟨⟨Nat.le_of_ble_eq_true rfl, Nat.le_of_ble_eq_true rfl⟩, ⟨Nat.le_of_ble_eq_true rfl, Nat.le_of_ble_eq_true rfl⟩⟩ (Nat.le_of_ble_eq_true rfl) rfl (by decide) (by decide) (by decide))
  replace e := ite_f c1 e
  refine Go.callS (M2 := mr m_F_needState (.inl none)) (as := [.int s0]) (rest := []) (v := none) (h1 := h) (by have q := x_F_needState (l := l) (D := D) (ad := ad) (aC := aC) hf (h := h) (b := s0); rw [if_neg c1] at q; exact q) (WS.mr ws_F_56) (by decide +kernel) rfl rfl ⟨⟨Nat.le_of_ble_eq_true rfl, Nat.le_of_ble_eq_true rfl⟩, ⟨Nat.zero_le _, Nat.zero_le _⟩⟩ (Nat.le_of_ble_eq_true rfl) ?_
  show Go l D ad aC _ _ m_F_wall 29 [some (.ref a0), some (.int x1)] [] h 0 0
  refine Go.run (pc' := 30) [.aload_n 0] (ls' := [some (.ref a0), some (.int x1)]) (st' := [.ref a0]) (by decide +kernel) rfl rfl ?_
  refine Go.getR fo_F_22 k0 (by decide +kernel) ?_
  refine Go.run (pc' := 34) [.aload_n 0] (ls' := [some (.ref a0), some (.int x1)]) (st' := [.ref a0, .ref (fld a0 2)]) (by decide +kernel) rfl rfl ?_
  refine Go.getR fo_F_10 k0 (by decide +kernel) ?_
  refine Go.getR fo_F_89 (kf_7_0 k0) (by decide +kernel) ?_
  obtain ⟨v2, e3, e⟩ := bd_inv e
  refine Go.callV (M2 := m_P_remember) (a := (fld a0 2)) (as := [.ref (fld (fld a0 0) 0)]) (rest := []) (v := none) (h1 := v2) (x_P_remember hf hI (kf_7_2 k0) (kf_1_0 (kf_7_0 k0)) e3) wv_F_238 (kf_7_2 k0) kc_3 (by decide +kernel) rfl rfl ⟨⟨Nat.le_of_ble_eq_true rfl, Nat.le_of_ble_eq_true rfl⟩, ⟨Nat.zero_le _, Nat.zero_le _⟩⟩ (Nat.le_of_ble_eq_true rfl) ?_
  show Go l D ad aC _ _ m_F_wall 43 [some (.ref a0), some (.int x1)] [] v2 0 0
  refine Go.run (pc' := 44) [.aload_n 0] (ls' := [some (.ref a0), some (.int x1)]) (st' := [.ref a0]) (by decide +kernel) rfl rfl ?_
  refine Go.getR fo_F_10 k0 (by decide +kernel) ?_
  refine Go.run (pc' := 48) [.iload_n 1] (ls' := [some (.ref a0), some (.int x1)]) (st' := [.int x1, .ref (fld a0 0)]) (by decide +kernel) rfl rfl ?_
  obtain ⟨v4, e5, e⟩ := bd_inv e
  refine Go.callV (M2 := m_A_openWall) (a := (fld a0 0)) (as := [.int x1]) (rest := []) (v := some (.int v4.1)) (h1 := v4.2) (x_A_openWall hf hI (kf_7_0 k0) e5) wv_F_242 (kf_7_0 k0) kc_1 (by decide +kernel) rfl rfl ⟨⟨Nat.le_of_ble_eq_true rfl, Nat.le_of_ble_eq_true rfl⟩, ⟨Nat.zero_le _, Nat.zero_le _⟩⟩ (Nat.le_of_ble_eq_true rfl) ?_
  show Go l D ad aC _ _ m_F_wall 51 [some (.ref a0), some (.int x1)] [.int v4.1] v4.2 0 0
  obtain rfl := Option.some.inj e
  exact Go.iret (M := m_F_wall) rfl (by decide) (by decide) (by decide +kernel)
def f_F_wall (h : HP) (a0 : Nat) (x1 : Int32) : Option (Res × HP) :=
  (f_A_isLength h x1).bind fun v1 =>
  if v1 = 0 then some (.inr "java/lang/IllegalArgumentException", h) else
  if (4 : Int32) ≤ (h (fld (fld a0 0) 0) 9) then
    f_F_wall_26 a0 x1 (0 : Int32) h
  else
    f_F_wall_26 a0 x1 (1 : Int32) h
set_option maxHeartbeats 1000000 in
theorem x_F_wall {l : Launch} {D : va_G} {ad : Nat → Nat} {aC : Nat → ClassId} (hf : l.flags = flags0) (hI : Inj ad) {h : HP} {a0 : Nat} {x1 : Int32} {r : Res × HP} (k0 : knd a0 = 7) (e : f_F_wall h a0 x1 = some r) : CT l D ad aC (mr m_F_wall r.1) [.ref a0, .int x1] h r.1 r.2 := by
  refine CT.ofGoR (by decide +kernel) rfl (Nat.le_of_ble_eq_true rfl) ?_
  unfold f_F_wall at e
  show Go l D ad aC _ _ m_F_wall 0 [some (.ref a0), some (.int x1)] [] h 0 0
  refine Go.run (pc' := 1) [.iload_n 1] (ls' := [some (.ref a0), some (.int x1)]) (st' := [.int x1]) (by decide +kernel) rfl rfl ?_
  obtain ⟨v1, e2, e⟩ := bd_inv e
  refine Go.callS (M2 := m_A_isLength) (as := [.int x1]) (rest := []) (v := some (.int v1)) (h1 := h) (x_A_isLength hf hI  e2) ws_F_235 (by decide +kernel) rfl rfl ⟨⟨Nat.le_of_ble_eq_true rfl, Nat.le_of_ble_eq_true rfl⟩, ⟨Nat.zero_le _, Nat.zero_le _⟩⟩ (Nat.le_of_ble_eq_true rfl) ?_
  show Go l D ad aC _ _ m_F_wall 4 [some (.ref a0), some (.int x1)] [.int v1] h 0 0
  rcases Decidable.em (v1 = 0) with c3 | c3
  · replace e := ite_t c3 e
    obtain rfl := Option.some.inj e
    exact Go.mr (res := .inr "java/lang/IllegalArgumentException") (Go.thrown (M := mr m_F_wall (.inr "java/lang/IllegalArgumentException")) (M2 := mr m_F_needArgument (.inr "java/lang/IllegalArgumentException")) (as := [.int v1]) (rest := []) (h1 := h) (by have q := x_F_needArgument (l := l) (D := D) (ad := ad) (aC := aC) hf (h := h) (b := v1); rw [if_pos c3] at q; exact q) (WS.mr ws_F_48) (by decide +kernel) rfl rfl ⟨⟨Nat.le_of_ble_eq_true rfl, Nat.le_of_ble_eq_true rfl⟩, ⟨Nat.le_of_ble_eq_true rfl, Nat.le_of_ble_eq_true rfl⟩⟩ (Nat.le_of_ble_eq_true rfl) rfl (by decide) (by decide) (by decide))
  replace e := ite_f c3 e
  refine Go.callS (M2 := mr m_F_needArgument (.inl none)) (as := [.int v1]) (rest := []) (v := none) (h1 := h) (by have q := x_F_needArgument (l := l) (D := D) (ad := ad) (aC := aC) hf (h := h) (b := v1); rw [if_neg c3] at q; exact q) (WS.mr ws_F_48) (by decide +kernel) rfl rfl ⟨⟨Nat.le_of_ble_eq_true rfl, Nat.le_of_ble_eq_true rfl⟩, ⟨Nat.zero_le _, Nat.zero_le _⟩⟩ (Nat.le_of_ble_eq_true rfl) ?_
  show Go l D ad aC _ _ m_F_wall 7 [some (.ref a0), some (.int x1)] [] h 0 0
  refine Go.run (pc' := 8) [.aload_n 0] (ls' := [some (.ref a0), some (.int x1)]) (st' := [.ref a0]) (by decide +kernel) rfl rfl ?_
  refine Go.getR fo_F_10 k0 (by decide +kernel) ?_
  refine Go.getR fo_F_89 (kf_7_0 k0) (by decide +kernel) ?_
  refine Go.getI fo_F_93 (kf_1_0 (kf_7_0 k0)) (by decide +kernel) ?_
  refine Go.run (pc' := 18) [.iconst 4] (ls' := [some (.ref a0), some (.int x1)]) (st' := [.int (4 : Int32), .int (h (fld (fld a0 0) 0) 9)]) (by decide +kernel) rfl rfl ?_
  refine Go.ic_ge (off := 7) (tgt := 25) (by decide +kernel) (by decide) (fun c4 => ?_) (fun c4 => ?_)
  · replace e := ite_t c4 e
    refine Go.run (pc' := 26) [.iconst 0] (ls' := [some (.ref a0), some (.int x1)]) (st' := [.int (0 : Int32)]) (by decide +kernel) rfl rfl ?_
    exact x_F_wall_26 hf hI k0 e
  · replace e := ite_f c4 e
    refine Go.run (pc' := 22) [.iconst 1] (ls' := [some (.ref a0), some (.int x1)]) (st' := [.int (1 : Int32)]) (by decide +kernel) rfl rfl ?_
    refine Go.goto (off := 4) (tgt := 26) (by decide +kernel) (by decide) ?_
    exact x_F_wall_26 hf hI k0 e
def f_F_outlet (h : HP) (a0 : Nat) (x1 : Int32) (x2 : Int32) (x3 : Int32) : Option (Res × HP) :=
  (f_S_hasMetre h (fld (fld a0 0) 0) x1 x2).bind fun v1 =>
  if v1 = 0 then some (.inr "java/lang/IndexOutOfBoundsException", h) else
  (f_F_inRange h x3 (0 : Int32) (4 : Int32)).bind fun v4 =>
  if v4 = 0 then some (.inr "java/lang/IllegalArgumentException", h) else
  (f_P_remember h (fld a0 2) (fld (fld a0 0) 0)).bind fun v7 =>
  (f_A_putPlugs v7 (fld a0 0) x1 x2 x3).bind fun v9 =>
  some (.inl (some (.int v9.1)), v9.2)
set_option maxHeartbeats 1000000 in
theorem x_F_outlet {l : Launch} {D : va_G} {ad : Nat → Nat} {aC : Nat → ClassId} (hf : l.flags = flags0) (hI : Inj ad) {h : HP} {a0 : Nat} {x1 : Int32} {x2 : Int32} {x3 : Int32} {r : Res × HP} (k0 : knd a0 = 7) (e : f_F_outlet h a0 x1 x2 x3 = some r) : CT l D ad aC (mr m_F_outlet r.1) [.ref a0, .int x1, .int x2, .int x3] h r.1 r.2 := by
  refine CT.ofGoR (by decide +kernel) rfl (Nat.le_of_ble_eq_true rfl) ?_
  unfold f_F_outlet at e
  show Go l D ad aC _ _ m_F_outlet 0 [some (.ref a0), some (.int x1), some (.int x2), some (.int x3)] [] h 0 0
  refine Go.run (pc' := 1) [.aload_n 0] (ls' := [some (.ref a0), some (.int x1), some (.int x2), some (.int x3)]) (st' := [.ref a0]) (by decide +kernel) rfl rfl ?_
  refine Go.getR fo_F_10 k0 (by decide +kernel) ?_
  refine Go.getR fo_F_89 (kf_7_0 k0) (by decide +kernel) ?_
  refine Go.run (pc' := 9) [.iload_n 1, .iload_n 2] (ls' := [some (.ref a0), some (.int x1), some (.int x2), some (.int x3)]) (st' := [.int x2, .int x1, .ref (fld (fld a0 0) 0)]) (by decide +kernel) rfl rfl ?_
  obtain ⟨v1, e2, e⟩ := bd_inv e
  refine Go.callV (M2 := m_S_hasMetre) (a := (fld (fld a0 0) 0)) (as := [.int x1, .int x2]) (rest := []) (v := some (.int v1)) (h1 := h) (x_S_hasMetre hf hI (kf_1_0 (kf_7_0 k0)) e2) wv_F_164 (kf_1_0 (kf_7_0 k0)) kc_6 (by decide +kernel) rfl rfl ⟨⟨Nat.le_of_ble_eq_true rfl, Nat.le_of_ble_eq_true rfl⟩, ⟨Nat.zero_le _, Nat.zero_le _⟩⟩ (Nat.le_of_ble_eq_true rfl) ?_
  show Go l D ad aC _ _ m_F_outlet 12 [some (.ref a0), some (.int x1), some (.int x2), some (.int x3)] [.int v1] h 0 0
  rcases Decidable.em (v1 = 0) with c3 | c3
  · replace e := ite_t c3 e
    obtain rfl := Option.some.inj e
    exact Go.mr (res := .inr "java/lang/IndexOutOfBoundsException") (Go.thrown (M := mr m_F_outlet (.inr "java/lang/IndexOutOfBoundsException")) (M2 := mr m_F_needExists (.inr "java/lang/IndexOutOfBoundsException")) (as := [.int v1]) (rest := []) (h1 := h) (by have q := x_F_needExists (l := l) (D := D) (ad := ad) (aC := aC) hf (h := h) (b := v1); rw [if_pos c3] at q; exact q) (WS.mr ws_F_142) (by decide +kernel) rfl rfl ⟨⟨Nat.le_of_ble_eq_true rfl, Nat.le_of_ble_eq_true rfl⟩, ⟨Nat.le_of_ble_eq_true rfl, Nat.le_of_ble_eq_true rfl⟩⟩ (Nat.le_of_ble_eq_true rfl) rfl (by decide) (by decide) (by decide))
  replace e := ite_f c3 e
  refine Go.callS (M2 := mr m_F_needExists (.inl none)) (as := [.int v1]) (rest := []) (v := none) (h1 := h) (by have q := x_F_needExists (l := l) (D := D) (ad := ad) (aC := aC) hf (h := h) (b := v1); rw [if_neg c3] at q; exact q) (WS.mr ws_F_142) (by decide +kernel) rfl rfl ⟨⟨Nat.le_of_ble_eq_true rfl, Nat.le_of_ble_eq_true rfl⟩, ⟨Nat.zero_le _, Nat.zero_le _⟩⟩ (Nat.le_of_ble_eq_true rfl) ?_
  show Go l D ad aC _ _ m_F_outlet 15 [some (.ref a0), some (.int x1), some (.int x2), some (.int x3)] [] h 0 0
  refine Go.run (pc' := 18) [.iload_n 3, .iconst 0, .iconst 4] (ls' := [some (.ref a0), some (.int x1), some (.int x2), some (.int x3)]) (st' := [.int (4 : Int32), .int (0 : Int32), .int x3]) (by decide +kernel) rfl rfl ?_
  obtain ⟨v4, e5, e⟩ := bd_inv e
  refine Go.callS (M2 := m_F_inRange) (as := [.int x3, .int (0 : Int32), .int (4 : Int32)]) (rest := []) (v := some (.int v4)) (h1 := h) (x_F_inRange hf hI  e5) ws_F_44 (by decide +kernel) rfl rfl ⟨⟨Nat.le_of_ble_eq_true rfl, Nat.le_of_ble_eq_true rfl⟩, ⟨Nat.zero_le _, Nat.zero_le _⟩⟩ (Nat.le_of_ble_eq_true rfl) ?_
  show Go l D ad aC _ _ m_F_outlet 21 [some (.ref a0), some (.int x1), some (.int x2), some (.int x3)] [.int v4] h 0 0
  rcases Decidable.em (v4 = 0) with c6 | c6
  · replace e := ite_t c6 e
    obtain rfl := Option.some.inj e
    exact Go.mr (res := .inr "java/lang/IllegalArgumentException") (Go.thrown (M := mr m_F_outlet (.inr "java/lang/IllegalArgumentException")) (M2 := mr m_F_needArgument (.inr "java/lang/IllegalArgumentException")) (as := [.int v4]) (rest := []) (h1 := h) (by have q := x_F_needArgument (l := l) (D := D) (ad := ad) (aC := aC) hf (h := h) (b := v4); rw [if_pos c6] at q; exact q) (WS.mr ws_F_48) (by decide +kernel) rfl rfl ⟨⟨Nat.le_of_ble_eq_true rfl, Nat.le_of_ble_eq_true rfl⟩, ⟨Nat.le_of_ble_eq_true rfl, Nat.le_of_ble_eq_true rfl⟩⟩ (Nat.le_of_ble_eq_true rfl) rfl (by decide) (by decide) (by decide))
  replace e := ite_f c6 e
  refine Go.callS (M2 := mr m_F_needArgument (.inl none)) (as := [.int v4]) (rest := []) (v := none) (h1 := h) (by have q := x_F_needArgument (l := l) (D := D) (ad := ad) (aC := aC) hf (h := h) (b := v4); rw [if_neg c6] at q; exact q) (WS.mr ws_F_48) (by decide +kernel) rfl rfl ⟨⟨Nat.le_of_ble_eq_true rfl, Nat.le_of_ble_eq_true rfl⟩, ⟨Nat.zero_le _, Nat.zero_le _⟩⟩ (Nat.le_of_ble_eq_true rfl) ?_
  show Go l D ad aC _ _ m_F_outlet 24 [some (.ref a0), some (.int x1), some (.int x2), some (.int x3)] [] h 0 0
  refine Go.run (pc' := 25) [.aload_n 0] (ls' := [some (.ref a0), some (.int x1), some (.int x2), some (.int x3)]) (st' := [.ref a0]) (by decide +kernel) rfl rfl ?_
  refine Go.getR fo_F_22 k0 (by decide +kernel) ?_
  refine Go.run (pc' := 29) [.aload_n 0] (ls' := [some (.ref a0), some (.int x1), some (.int x2), some (.int x3)]) (st' := [.ref a0, .ref (fld a0 2)]) (by decide +kernel) rfl rfl ?_
  refine Go.getR fo_F_10 k0 (by decide +kernel) ?_
  refine Go.getR fo_F_89 (kf_7_0 k0) (by decide +kernel) ?_
  obtain ⟨v7, e8, e⟩ := bd_inv e
  refine Go.callV (M2 := m_P_remember) (a := (fld a0 2)) (as := [.ref (fld (fld a0 0) 0)]) (rest := []) (v := none) (h1 := v7) (x_P_remember hf hI (kf_7_2 k0) (kf_1_0 (kf_7_0 k0)) e8) wv_F_238 (kf_7_2 k0) kc_3 (by decide +kernel) rfl rfl ⟨⟨Nat.le_of_ble_eq_true rfl, Nat.le_of_ble_eq_true rfl⟩, ⟨Nat.zero_le _, Nat.zero_le _⟩⟩ (Nat.le_of_ble_eq_true rfl) ?_
  show Go l D ad aC _ _ m_F_outlet 38 [some (.ref a0), some (.int x1), some (.int x2), some (.int x3)] [] v7 0 0
  refine Go.run (pc' := 39) [.aload_n 0] (ls' := [some (.ref a0), some (.int x1), some (.int x2), some (.int x3)]) (st' := [.ref a0]) (by decide +kernel) rfl rfl ?_
  refine Go.getR fo_F_10 k0 (by decide +kernel) ?_
  refine Go.run (pc' := 45) [.iload_n 1, .iload_n 2, .iload_n 3] (ls' := [some (.ref a0), some (.int x1), some (.int x2), some (.int x3)]) (st' := [.int x3, .int x2, .int x1, .ref (fld a0 0)]) (by decide +kernel) rfl rfl ?_
  obtain ⟨v9, e10, e⟩ := bd_inv e
  refine Go.callV (M2 := m_A_putPlugs) (a := (fld a0 0)) (as := [.int x1, .int x2, .int x3]) (rest := []) (v := some (.int v9.1)) (h1 := v9.2) (x_A_putPlugs hf hI (kf_7_0 k0) e10) wv_F_245 (kf_7_0 k0) kc_1 (by decide +kernel) rfl rfl ⟨⟨Nat.le_of_ble_eq_true rfl, Nat.le_of_ble_eq_true rfl⟩, ⟨Nat.zero_le _, Nat.zero_le _⟩⟩ (Nat.le_of_ble_eq_true rfl) ?_
  show Go l D ad aC _ _ m_F_outlet 48 [some (.ref a0), some (.int x1), some (.int x2), some (.int x3)] [.int v9.1] v9.2 0 0
  obtain rfl := Option.some.inj e
  exact Go.iret (M := m_F_outlet) rfl (by decide) (by decide) (by decide +kernel)
def f_F_dealer_29  (a0 : Nat) (x1 : Int32) (x2 : Int32) (x3 : Int32) (s0 : Int32) (h : HP) : Option (Res × HP) :=
  if s0 = 0 then some (.inr "java/lang/IllegalStateException", h) else
  (f_P_remember h (fld a0 2) (fld (fld a0 0) 0)).bind fun v2 =>
  (f_A_admit v2 (fld a0 0) x1 x2 x3).bind fun v4 =>
  some (.inl (some (.int v4.1)), v4.2)
set_option maxHeartbeats 1000000 in
theorem x_F_dealer_29 {l : Launch} {D : va_G} {ad : Nat → Nat} {aC : Nat → ClassId} (hf : l.flags = flags0) (hI : Inj ad) {a0 : Nat} {x1 : Int32} {x2 : Int32} {x3 : Int32} {s0 : Int32} {h : HP} {r : Res × HP} (k0 : knd a0 = 7) (e : f_F_dealer_29 a0 x1 x2 x3 s0 h = some r) : Go l D ad aC (rmk (mr m_F_dealer r.1)) (QM D ad aC (mr m_F_dealer r.1) r.1 r.2) m_F_dealer 29 [some (.ref a0), some (.int x1), some (.int x2), some (.int x3)] [.int s0] h 0 0 := by
  unfold f_F_dealer_29 at e
  rcases Decidable.em (s0 = 0) with c1 | c1
  · replace e := ite_t c1 e
    obtain rfl := Option.some.inj e
    exact Go.mr (res := .inr "java/lang/IllegalStateException") (Go.thrown (M := mr m_F_dealer (.inr "java/lang/IllegalStateException")) (M2 := mr m_F_needState (.inr "java/lang/IllegalStateException")) (as := [.int s0]) (rest := []) (h1 := h) (by have q := x_F_needState (l := l) (D := D) (ad := ad) (aC := aC) hf (h := h) (b := s0); rw [if_pos c1] at q; exact q) (WS.mr ws_F_56) (by decide +kernel) rfl rfl ⟨⟨Nat.le_of_ble_eq_true rfl, Nat.le_of_ble_eq_true rfl⟩, ⟨Nat.le_of_ble_eq_true rfl, Nat.le_of_ble_eq_true rfl⟩⟩ (Nat.le_of_ble_eq_true rfl) rfl (by decide) (by decide) (by decide))
  replace e := ite_f c1 e
  refine Go.callS (M2 := mr m_F_needState (.inl none)) (as := [.int s0]) (rest := []) (v := none) (h1 := h) (by have q := x_F_needState (l := l) (D := D) (ad := ad) (aC := aC) hf (h := h) (b := s0); rw [if_neg c1] at q; exact q) (WS.mr ws_F_56) (by decide +kernel) rfl rfl ⟨⟨Nat.le_of_ble_eq_true rfl, Nat.le_of_ble_eq_true rfl⟩, ⟨Nat.zero_le _, Nat.zero_le _⟩⟩ (Nat.le_of_ble_eq_true rfl) ?_
  show Go l D ad aC _ _ m_F_dealer 32 [some (.ref a0), some (.int x1), some (.int x2), some (.int x3)] [] h 0 0
  refine Go.run (pc' := 33) [.aload_n 0] (ls' := [some (.ref a0), some (.int x1), some (.int x2), some (.int x3)]) (st' := [.ref a0]) (by decide +kernel) rfl rfl ?_
  refine Go.getR fo_F_22 k0 (by decide +kernel) ?_
  refine Go.run (pc' := 37) [.aload_n 0] (ls' := [some (.ref a0), some (.int x1), some (.int x2), some (.int x3)]) (st' := [.ref a0, .ref (fld a0 2)]) (by decide +kernel) rfl rfl ?_
  refine Go.getR fo_F_10 k0 (by decide +kernel) ?_
  refine Go.getR fo_F_89 (kf_7_0 k0) (by decide +kernel) ?_
  obtain ⟨v2, e3, e⟩ := bd_inv e
  refine Go.callV (M2 := m_P_remember) (a := (fld a0 2)) (as := [.ref (fld (fld a0 0) 0)]) (rest := []) (v := none) (h1 := v2) (x_P_remember hf hI (kf_7_2 k0) (kf_1_0 (kf_7_0 k0)) e3) wv_F_238 (kf_7_2 k0) kc_3 (by decide +kernel) rfl rfl ⟨⟨Nat.le_of_ble_eq_true rfl, Nat.le_of_ble_eq_true rfl⟩, ⟨Nat.zero_le _, Nat.zero_le _⟩⟩ (Nat.le_of_ble_eq_true rfl) ?_
  show Go l D ad aC _ _ m_F_dealer 46 [some (.ref a0), some (.int x1), some (.int x2), some (.int x3)] [] v2 0 0
  refine Go.run (pc' := 47) [.aload_n 0] (ls' := [some (.ref a0), some (.int x1), some (.int x2), some (.int x3)]) (st' := [.ref a0]) (by decide +kernel) rfl rfl ?_
  refine Go.getR fo_F_10 k0 (by decide +kernel) ?_
  refine Go.run (pc' := 53) [.iload_n 1, .iload_n 2, .iload_n 3] (ls' := [some (.ref a0), some (.int x1), some (.int x2), some (.int x3)]) (st' := [.int x3, .int x2, .int x1, .ref (fld a0 0)]) (by decide +kernel) rfl rfl ?_
  obtain ⟨v4, e5, e⟩ := bd_inv e
  refine Go.callV (M2 := m_A_admit) (a := (fld a0 0)) (as := [.int x1, .int x2, .int x3]) (rest := []) (v := some (.int v4.1)) (h1 := v4.2) (x_A_admit hf hI (kf_7_0 k0) e5) wv_F_252 (kf_7_0 k0) kc_1 (by decide +kernel) rfl rfl ⟨⟨Nat.le_of_ble_eq_true rfl, Nat.le_of_ble_eq_true rfl⟩, ⟨Nat.zero_le _, Nat.zero_le _⟩⟩ (Nat.le_of_ble_eq_true rfl) ?_
  show Go l D ad aC _ _ m_F_dealer 56 [some (.ref a0), some (.int x1), some (.int x2), some (.int x3)] [.int v4.1] v4.2 0 0
  obtain rfl := Option.some.inj e
  exact Go.iret (M := m_F_dealer) rfl (by decide) (by decide) (by decide +kernel)
def f_F_dealer (h : HP) (a0 : Nat) (x1 : Int32) (x2 : Int32) (x3 : Int32) : Option (Res × HP) :=
  (f_A_isDealer h x1 x2 x3).bind fun v1 =>
  if v1 = 0 then some (.inr "java/lang/IllegalArgumentException", h) else
  if (10 : Int32) ≤ (h (fld (fld a0 0) 0) 10) then
    f_F_dealer_29 a0 x1 x2 x3 (0 : Int32) h
  else
    f_F_dealer_29 a0 x1 x2 x3 (1 : Int32) h
set_option maxHeartbeats 1000000 in
theorem x_F_dealer {l : Launch} {D : va_G} {ad : Nat → Nat} {aC : Nat → ClassId} (hf : l.flags = flags0) (hI : Inj ad) {h : HP} {a0 : Nat} {x1 : Int32} {x2 : Int32} {x3 : Int32} {r : Res × HP} (k0 : knd a0 = 7) (e : f_F_dealer h a0 x1 x2 x3 = some r) : CT l D ad aC (mr m_F_dealer r.1) [.ref a0, .int x1, .int x2, .int x3] h r.1 r.2 := by
  refine CT.ofGoR (by decide +kernel) rfl (Nat.le_of_ble_eq_true rfl) ?_
  unfold f_F_dealer at e
  show Go l D ad aC _ _ m_F_dealer 0 [some (.ref a0), some (.int x1), some (.int x2), some (.int x3)] [] h 0 0
  refine Go.run (pc' := 3) [.iload_n 1, .iload_n 2, .iload_n 3] (ls' := [some (.ref a0), some (.int x1), some (.int x2), some (.int x3)]) (st' := [.int x3, .int x2, .int x1]) (by decide +kernel) rfl rfl ?_
  obtain ⟨v1, e2, e⟩ := bd_inv e
  refine Go.callS (M2 := m_A_isDealer) (as := [.int x1, .int x2, .int x3]) (rest := []) (v := some (.int v1)) (h1 := h) (x_A_isDealer hf hI  e2) ws_F_249 (by decide +kernel) rfl rfl ⟨⟨Nat.le_of_ble_eq_true rfl, Nat.le_of_ble_eq_true rfl⟩, ⟨Nat.zero_le _, Nat.zero_le _⟩⟩ (Nat.le_of_ble_eq_true rfl) ?_
  show Go l D ad aC _ _ m_F_dealer 6 [some (.ref a0), some (.int x1), some (.int x2), some (.int x3)] [.int v1] h 0 0
  rcases Decidable.em (v1 = 0) with c3 | c3
  · replace e := ite_t c3 e
    obtain rfl := Option.some.inj e
    exact Go.mr (res := .inr "java/lang/IllegalArgumentException") (Go.thrown (M := mr m_F_dealer (.inr "java/lang/IllegalArgumentException")) (M2 := mr m_F_needArgument (.inr "java/lang/IllegalArgumentException")) (as := [.int v1]) (rest := []) (h1 := h) (by have q := x_F_needArgument (l := l) (D := D) (ad := ad) (aC := aC) hf (h := h) (b := v1); rw [if_pos c3] at q; exact q) (WS.mr ws_F_48) (by decide +kernel) rfl rfl ⟨⟨Nat.le_of_ble_eq_true rfl, Nat.le_of_ble_eq_true rfl⟩, ⟨Nat.le_of_ble_eq_true rfl, Nat.le_of_ble_eq_true rfl⟩⟩ (Nat.le_of_ble_eq_true rfl) rfl (by decide) (by decide) (by decide))
  replace e := ite_f c3 e
  refine Go.callS (M2 := mr m_F_needArgument (.inl none)) (as := [.int v1]) (rest := []) (v := none) (h1 := h) (by have q := x_F_needArgument (l := l) (D := D) (ad := ad) (aC := aC) hf (h := h) (b := v1); rw [if_neg c3] at q; exact q) (WS.mr ws_F_48) (by decide +kernel) rfl rfl ⟨⟨Nat.le_of_ble_eq_true rfl, Nat.le_of_ble_eq_true rfl⟩, ⟨Nat.zero_le _, Nat.zero_le _⟩⟩ (Nat.le_of_ble_eq_true rfl) ?_
  show Go l D ad aC _ _ m_F_dealer 9 [some (.ref a0), some (.int x1), some (.int x2), some (.int x3)] [] h 0 0
  refine Go.run (pc' := 10) [.aload_n 0] (ls' := [some (.ref a0), some (.int x1), some (.int x2), some (.int x3)]) (st' := [.ref a0]) (by decide +kernel) rfl rfl ?_
  refine Go.getR fo_F_10 k0 (by decide +kernel) ?_
  refine Go.getR fo_F_89 (kf_7_0 k0) (by decide +kernel) ?_
  refine Go.getI fo_F_99 (kf_1_0 (kf_7_0 k0)) (by decide +kernel) ?_
  refine Go.run (pc' := 21) [.bipush (10)] (ls' := [some (.ref a0), some (.int x1), some (.int x2), some (.int x3)]) (st' := [.int (10 : Int32), .int (h (fld (fld a0 0) 0) 10)]) (by decide +kernel) rfl rfl ?_
  refine Go.ic_ge (off := 7) (tgt := 28) (by decide +kernel) (by decide) (fun c4 => ?_) (fun c4 => ?_)
  · replace e := ite_t c4 e
    refine Go.run (pc' := 29) [.iconst 0] (ls' := [some (.ref a0), some (.int x1), some (.int x2), some (.int x3)]) (st' := [.int (0 : Int32)]) (by decide +kernel) rfl rfl ?_
    exact x_F_dealer_29 hf hI k0 e
  · replace e := ite_f c4 e
    refine Go.run (pc' := 25) [.iconst 1] (ls' := [some (.ref a0), some (.int x1), some (.int x2), some (.int x3)]) (st' := [.int (1 : Int32)]) (by decide +kernel) rfl rfl ?_
    refine Go.goto (off := 4) (tgt := 29) (by decide +kernel) (by decide) ?_
    exact x_F_dealer_29 hf hI k0 e
def f_F_place_34  (a0 : Nat) (x1 : Int32) (x2 : Int32) (x3 : Int32) (s0 : Int32) (h : HP) : Option (Res × HP) :=
  if s0 = 0 then some (.inr "java/lang/IndexOutOfBoundsException", h) else
  (f_P_remember h (fld a0 2) (fld (fld a0 0) 0)).bind fun v2 =>
  (f_A_letStand v2 (fld a0 0) x1 x2 x3).bind fun v4 =>
  (f_A_countRefusal v4.2 (fld a0 0) v4.1).bind fun v6 =>
  some (.inl (some (.int v6.1)), v6.2)
set_option maxHeartbeats 1000000 in
theorem x_F_place_34 {l : Launch} {D : va_G} {ad : Nat → Nat} {aC : Nat → ClassId} (hf : l.flags = flags0) (hI : Inj ad) {a0 : Nat} {x1 : Int32} {x2 : Int32} {x3 : Int32} {s0 : Int32} {h : HP} {r : Res × HP} (k0 : knd a0 = 7) (e : f_F_place_34 a0 x1 x2 x3 s0 h = some r) : Go l D ad aC (rmk (mr m_F_place r.1)) (QM D ad aC (mr m_F_place r.1) r.1 r.2) m_F_place 34 [some (.ref a0), some (.int x1), some (.int x2), some (.int x3)] [.int s0] h 0 0 := by
  unfold f_F_place_34 at e
  rcases Decidable.em (s0 = 0) with c1 | c1
  · replace e := ite_t c1 e
    obtain rfl := Option.some.inj e
    exact Go.mr (res := .inr "java/lang/IndexOutOfBoundsException") (Go.thrown (M := mr m_F_place (.inr "java/lang/IndexOutOfBoundsException")) (M2 := mr m_F_needExists (.inr "java/lang/IndexOutOfBoundsException")) (as := [.int s0]) (rest := []) (h1 := h) (by have q := x_F_needExists (l := l) (D := D) (ad := ad) (aC := aC) hf (h := h) (b := s0); rw [if_pos c1] at q; exact q) (WS.mr ws_F_142) (by decide +kernel) rfl rfl ⟨⟨Nat.le_of_ble_eq_true rfl, Nat.le_of_ble_eq_true rfl⟩, ⟨Nat.le_of_ble_eq_true rfl, Nat.le_of_ble_eq_true rfl⟩⟩ (Nat.le_of_ble_eq_true rfl) rfl (by decide) (by decide) (by decide))
  replace e := ite_f c1 e
  refine Go.callS (M2 := mr m_F_needExists (.inl none)) (as := [.int s0]) (rest := []) (v := none) (h1 := h) (by have q := x_F_needExists (l := l) (D := D) (ad := ad) (aC := aC) hf (h := h) (b := s0); rw [if_neg c1] at q; exact q) (WS.mr ws_F_142) (by decide +kernel) rfl rfl ⟨⟨Nat.le_of_ble_eq_true rfl, Nat.le_of_ble_eq_true rfl⟩, ⟨Nat.zero_le _, Nat.zero_le _⟩⟩ (Nat.le_of_ble_eq_true rfl) ?_
  show Go l D ad aC _ _ m_F_place 37 [some (.ref a0), some (.int x1), some (.int x2), some (.int x3)] [] h 0 0
  refine Go.run (pc' := 38) [.aload_n 0] (ls' := [some (.ref a0), some (.int x1), some (.int x2), some (.int x3)]) (st' := [.ref a0]) (by decide +kernel) rfl rfl ?_
  refine Go.getR fo_F_22 k0 (by decide +kernel) ?_
  refine Go.run (pc' := 42) [.aload_n 0] (ls' := [some (.ref a0), some (.int x1), some (.int x2), some (.int x3)]) (st' := [.ref a0, .ref (fld a0 2)]) (by decide +kernel) rfl rfl ?_
  refine Go.getR fo_F_10 k0 (by decide +kernel) ?_
  refine Go.getR fo_F_89 (kf_7_0 k0) (by decide +kernel) ?_
  obtain ⟨v2, e3, e⟩ := bd_inv e
  refine Go.callV (M2 := m_P_remember) (a := (fld a0 2)) (as := [.ref (fld (fld a0 0) 0)]) (rest := []) (v := none) (h1 := v2) (x_P_remember hf hI (kf_7_2 k0) (kf_1_0 (kf_7_0 k0)) e3) wv_F_238 (kf_7_2 k0) kc_3 (by decide +kernel) rfl rfl ⟨⟨Nat.le_of_ble_eq_true rfl, Nat.le_of_ble_eq_true rfl⟩, ⟨Nat.zero_le _, Nat.zero_le _⟩⟩ (Nat.le_of_ble_eq_true rfl) ?_
  show Go l D ad aC _ _ m_F_place 51 [some (.ref a0), some (.int x1), some (.int x2), some (.int x3)] [] v2 0 0
  refine Go.run (pc' := 52) [.aload_n 0] (ls' := [some (.ref a0), some (.int x1), some (.int x2), some (.int x3)]) (st' := [.ref a0]) (by decide +kernel) rfl rfl ?_
  refine Go.getR fo_F_10 k0 (by decide +kernel) ?_
  refine Go.run (pc' := 56) [.aload_n 0] (ls' := [some (.ref a0), some (.int x1), some (.int x2), some (.int x3)]) (st' := [.ref a0, .ref (fld a0 0)]) (by decide +kernel) rfl rfl ?_
  refine Go.getR fo_F_10 k0 (by decide +kernel) ?_
  refine Go.run (pc' := 62) [.iload_n 1, .iload_n 2, .iload_n 3] (ls' := [some (.ref a0), some (.int x1), some (.int x2), some (.int x3)]) (st' := [.int x3, .int x2, .int x1, .ref (fld a0 0), .ref (fld a0 0)]) (by decide +kernel) rfl rfl ?_
  obtain ⟨v4, e5, e⟩ := bd_inv e
  refine Go.callV (M2 := m_A_letStand) (a := (fld a0 0)) (as := [.int x1, .int x2, .int x3]) (rest := [.ref (fld a0 0)]) (v := some (.int v4.1)) (h1 := v4.2) (x_A_letStand hf hI (kf_7_0 k0) e5) wv_F_255 (kf_7_0 k0) kc_1 (by decide +kernel) rfl rfl ⟨⟨Nat.le_of_ble_eq_true rfl, Nat.le_of_ble_eq_true rfl⟩, ⟨Nat.zero_le _, Nat.zero_le _⟩⟩ (Nat.le_of_ble_eq_true rfl) ?_
  show Go l D ad aC _ _ m_F_place 65 [some (.ref a0), some (.int x1), some (.int x2), some (.int x3)] [.int v4.1, .ref (fld a0 0)] v4.2 0 0
  obtain ⟨v6, e7, e⟩ := bd_inv e
  refine Go.callV (M2 := m_A_countRefusal) (a := (fld a0 0)) (as := [.int v4.1]) (rest := []) (v := some (.int v6.1)) (h1 := v6.2) (x_A_countRefusal hf hI (kf_7_0 k0) e7) wv_F_258 (kf_7_0 k0) kc_1 (by decide +kernel) rfl rfl ⟨⟨Nat.le_of_ble_eq_true rfl, Nat.le_of_ble_eq_true rfl⟩, ⟨Nat.zero_le _, Nat.zero_le _⟩⟩ (Nat.le_of_ble_eq_true rfl) ?_
  show Go l D ad aC _ _ m_F_place 68 [some (.ref a0), some (.int x1), some (.int x2), some (.int x3)] [.int v6.1] v6.2 0 0
  obtain rfl := Option.some.inj e
  exact Go.iret (M := m_F_place) rfl (by decide) (by decide) (by decide +kernel)
def f_F_place_33  (a0 : Nat) (x1 : Int32) (x2 : Int32) (x3 : Int32) (h : HP) : Option (Res × HP) :=
  f_F_place_34 a0 x1 x2 x3 (0 : Int32) h
set_option maxHeartbeats 1000000 in
theorem x_F_place_33 {l : Launch} {D : va_G} {ad : Nat → Nat} {aC : Nat → ClassId} (hf : l.flags = flags0) (hI : Inj ad) {a0 : Nat} {x1 : Int32} {x2 : Int32} {x3 : Int32} {h : HP} {r : Res × HP} (k0 : knd a0 = 7) (e : f_F_place_33 a0 x1 x2 x3 h = some r) : Go l D ad aC (rmk (mr m_F_place r.1)) (QM D ad aC (mr m_F_place r.1) r.1 r.2) m_F_place 33 [some (.ref a0), some (.int x1), some (.int x2), some (.int x3)] [] h 0 0 := by
  unfold f_F_place_33 at e
  refine Go.run (pc' := 34) [.iconst 0] (ls' := [some (.ref a0), some (.int x1), some (.int x2), some (.int x3)]) (st' := [.int (0 : Int32)]) (by decide +kernel) rfl rfl ?_
  exact x_F_place_34 hf hI k0 e
def f_F_place (h : HP) (a0 : Nat) (x1 : Int32) (x2 : Int32) (x3 : Int32) : Option (Res × HP) :=
  (f_S_hasDealer h (fld (fld a0 0) 0) x1).bind fun v1 =>
  if v1 = 0 then
    f_F_place_33 a0 x1 x2 x3 h
  else
    (f_S_hasMetre h (fld (fld a0 0) 0) x2 x3).bind fun v4 =>
    if v4 = 0 then
      f_F_place_33 a0 x1 x2 x3 h
    else
      f_F_place_34 a0 x1 x2 x3 (1 : Int32) h
set_option maxHeartbeats 1000000 in
theorem x_F_place {l : Launch} {D : va_G} {ad : Nat → Nat} {aC : Nat → ClassId} (hf : l.flags = flags0) (hI : Inj ad) {h : HP} {a0 : Nat} {x1 : Int32} {x2 : Int32} {x3 : Int32} {r : Res × HP} (k0 : knd a0 = 7) (e : f_F_place h a0 x1 x2 x3 = some r) : CT l D ad aC (mr m_F_place r.1) [.ref a0, .int x1, .int x2, .int x3] h r.1 r.2 := by
  refine CT.ofGoR (by decide +kernel) rfl (Nat.le_of_ble_eq_true rfl) ?_
  unfold f_F_place at e
  show Go l D ad aC _ _ m_F_place 0 [some (.ref a0), some (.int x1), some (.int x2), some (.int x3)] [] h 0 0
  refine Go.run (pc' := 1) [.aload_n 0] (ls' := [some (.ref a0), some (.int x1), some (.int x2), some (.int x3)]) (st' := [.ref a0]) (by decide +kernel) rfl rfl ?_
  refine Go.getR fo_F_10 k0 (by decide +kernel) ?_
  refine Go.getR fo_F_89 (kf_7_0 k0) (by decide +kernel) ?_
  refine Go.run (pc' := 8) [.iload_n 1] (ls' := [some (.ref a0), some (.int x1), some (.int x2), some (.int x3)]) (st' := [.int x1, .ref (fld (fld a0 0) 0)]) (by decide +kernel) rfl rfl ?_
  obtain ⟨v1, e2, e⟩ := bd_inv e
  refine Go.callV (M2 := m_S_hasDealer) (a := (fld (fld a0 0) 0)) (as := [.int x1]) (rest := []) (v := some (.int v1)) (h1 := h) (x_S_hasDealer hf hI (kf_1_0 (kf_7_0 k0)) e2) wv_F_184 (kf_1_0 (kf_7_0 k0)) kc_6 (by decide +kernel) rfl rfl ⟨⟨Nat.le_of_ble_eq_true rfl, Nat.le_of_ble_eq_true rfl⟩, ⟨Nat.zero_le _, Nat.zero_le _⟩⟩ (Nat.le_of_ble_eq_true rfl) ?_
  show Go l D ad aC _ _ m_F_place 11 [some (.ref a0), some (.int x1), some (.int x2), some (.int x3)] [.int v1] h 0 0
  refine Go.if_eq (off := 22) (tgt := 33) (by decide +kernel) (by decide) (fun c3 => ?_) (fun c3 => ?_)
  · replace e := ite_t c3 e
    exact x_F_place_33 hf hI k0 e
  · replace e := ite_f c3 e
    refine Go.run (pc' := 15) [.aload_n 0] (ls' := [some (.ref a0), some (.int x1), some (.int x2), some (.int x3)]) (st' := [.ref a0]) (by decide +kernel) rfl rfl ?_
    refine Go.getR fo_F_10 k0 (by decide +kernel) ?_
    refine Go.getR fo_F_89 (kf_7_0 k0) (by decide +kernel) ?_
    refine Go.run (pc' := 23) [.iload_n 2, .iload_n 3] (ls' := [some (.ref a0), some (.int x1), some (.int x2), some (.int x3)]) (st' := [.int x3, .int x2, .ref (fld (fld a0 0) 0)]) (by decide +kernel) rfl rfl ?_
    obtain ⟨v4, e5, e⟩ := bd_inv e
    refine Go.callV (M2 := m_S_hasMetre) (a := (fld (fld a0 0) 0)) (as := [.int x2, .int x3]) (rest := []) (v := some (.int v4)) (h1 := h) (x_S_hasMetre hf hI (kf_1_0 (kf_7_0 k0)) e5) wv_F_164 (kf_1_0 (kf_7_0 k0)) kc_6 (by decide +kernel) rfl rfl ⟨⟨Nat.le_of_ble_eq_true rfl, Nat.le_of_ble_eq_true rfl⟩, ⟨Nat.zero_le _, Nat.zero_le _⟩⟩ (Nat.le_of_ble_eq_true rfl) ?_
    show Go l D ad aC _ _ m_F_place 26 [some (.ref a0), some (.int x1), some (.int x2), some (.int x3)] [.int v4] h 0 0
    refine Go.if_eq (off := 7) (tgt := 33) (by decide +kernel) (by decide) (fun c6 => ?_) (fun c6 => ?_)
    · replace e := ite_t c6 e
      exact x_F_place_33 hf hI k0 e
    · replace e := ite_f c6 e
      refine Go.run (pc' := 30) [.iconst 1] (ls' := [some (.ref a0), some (.int x1), some (.int x2), some (.int x3)]) (st' := [.int (1 : Int32)]) (by decide +kernel) rfl rfl ?_
      refine Go.goto (off := 4) (tgt := 34) (by decide +kernel) (by decide) ?_
      exact x_F_place_34 hf hI k0 e
def f_F_leave (h : HP) (a0 : Nat) (x1 : Int32) : Option (Res × HP) :=
  (f_S_hasDealer h (fld (fld a0 0) 0) x1).bind fun v1 =>
  if v1 = 0 then some (.inr "java/lang/IndexOutOfBoundsException", h) else
  (f_S_stands h (fld (fld a0 0) 0) x1).bind fun v4 =>
  if v4 = 0 then some (.inr "java/lang/IllegalStateException", h) else
  (f_P_remember h (fld a0 2) (fld (fld a0 0) 0)).bind fun v7 =>
  (f_A_sendAway v7 (fld a0 0) x1).bind fun v9 =>
  some (.inl (some (.int v9.1)), v9.2)
set_option maxHeartbeats 1000000 in
theorem x_F_leave {l : Launch} {D : va_G} {ad : Nat → Nat} {aC : Nat → ClassId} (hf : l.flags = flags0) (hI : Inj ad) {h : HP} {a0 : Nat} {x1 : Int32} {r : Res × HP} (k0 : knd a0 = 7) (e : f_F_leave h a0 x1 = some r) : CT l D ad aC (mr m_F_leave r.1) [.ref a0, .int x1] h r.1 r.2 := by
  refine CT.ofGoR (by decide +kernel) rfl (Nat.le_of_ble_eq_true rfl) ?_
  unfold f_F_leave at e
  show Go l D ad aC _ _ m_F_leave 0 [some (.ref a0), some (.int x1)] [] h 0 0
  refine Go.run (pc' := 1) [.aload_n 0] (ls' := [some (.ref a0), some (.int x1)]) (st' := [.ref a0]) (by decide +kernel) rfl rfl ?_
  refine Go.getR fo_F_10 k0 (by decide +kernel) ?_
  refine Go.getR fo_F_89 (kf_7_0 k0) (by decide +kernel) ?_
  refine Go.run (pc' := 8) [.iload_n 1] (ls' := [some (.ref a0), some (.int x1)]) (st' := [.int x1, .ref (fld (fld a0 0) 0)]) (by decide +kernel) rfl rfl ?_
  obtain ⟨v1, e2, e⟩ := bd_inv e
  refine Go.callV (M2 := m_S_hasDealer) (a := (fld (fld a0 0) 0)) (as := [.int x1]) (rest := []) (v := some (.int v1)) (h1 := h) (x_S_hasDealer hf hI (kf_1_0 (kf_7_0 k0)) e2) wv_F_184 (kf_1_0 (kf_7_0 k0)) kc_6 (by decide +kernel) rfl rfl ⟨⟨Nat.le_of_ble_eq_true rfl, Nat.le_of_ble_eq_true rfl⟩, ⟨Nat.zero_le _, Nat.zero_le _⟩⟩ (Nat.le_of_ble_eq_true rfl) ?_
  show Go l D ad aC _ _ m_F_leave 11 [some (.ref a0), some (.int x1)] [.int v1] h 0 0
  rcases Decidable.em (v1 = 0) with c3 | c3
  · replace e := ite_t c3 e
    obtain rfl := Option.some.inj e
    exact Go.mr (res := .inr "java/lang/IndexOutOfBoundsException") (Go.thrown (M := mr m_F_leave (.inr "java/lang/IndexOutOfBoundsException")) (M2 := mr m_F_needExists (.inr "java/lang/IndexOutOfBoundsException")) (as := [.int v1]) (rest := []) (h1 := h) (by have q := x_F_needExists (l := l) (D := D) (ad := ad) (aC := aC) hf (h := h) (b := v1); rw [if_pos c3] at q; exact q) (WS.mr ws_F_142) (by decide +kernel) rfl rfl ⟨⟨Nat.le_of_ble_eq_true rfl, Nat.le_of_ble_eq_true rfl⟩, ⟨Nat.le_of_ble_eq_true rfl, Nat.le_of_ble_eq_true rfl⟩⟩ (Nat.le_of_ble_eq_true rfl) rfl (by decide) (by decide) (by decide))
  replace e := ite_f c3 e
  refine Go.callS (M2 := mr m_F_needExists (.inl none)) (as := [.int v1]) (rest := []) (v := none) (h1 := h) (by have q := x_F_needExists (l := l) (D := D) (ad := ad) (aC := aC) hf (h := h) (b := v1); rw [if_neg c3] at q; exact q) (WS.mr ws_F_142) (by decide +kernel) rfl rfl ⟨⟨Nat.le_of_ble_eq_true rfl, Nat.le_of_ble_eq_true rfl⟩, ⟨Nat.zero_le _, Nat.zero_le _⟩⟩ (Nat.le_of_ble_eq_true rfl) ?_
  show Go l D ad aC _ _ m_F_leave 14 [some (.ref a0), some (.int x1)] [] h 0 0
  refine Go.run (pc' := 15) [.aload_n 0] (ls' := [some (.ref a0), some (.int x1)]) (st' := [.ref a0]) (by decide +kernel) rfl rfl ?_
  refine Go.getR fo_F_10 k0 (by decide +kernel) ?_
  refine Go.getR fo_F_89 (kf_7_0 k0) (by decide +kernel) ?_
  refine Go.run (pc' := 22) [.iload_n 1] (ls' := [some (.ref a0), some (.int x1)]) (st' := [.int x1, .ref (fld (fld a0 0) 0)]) (by decide +kernel) rfl rfl ?_
  obtain ⟨v4, e5, e⟩ := bd_inv e
  refine Go.callV (M2 := m_S_stands) (a := (fld (fld a0 0) 0)) (as := [.int x1]) (rest := []) (v := some (.int v4)) (h1 := h) (x_S_stands hf hI (kf_1_0 (kf_7_0 k0)) e5) wv_F_261 (kf_1_0 (kf_7_0 k0)) kc_6 (by decide +kernel) rfl rfl ⟨⟨Nat.le_of_ble_eq_true rfl, Nat.le_of_ble_eq_true rfl⟩, ⟨Nat.zero_le _, Nat.zero_le _⟩⟩ (Nat.le_of_ble_eq_true rfl) ?_
  show Go l D ad aC _ _ m_F_leave 25 [some (.ref a0), some (.int x1)] [.int v4] h 0 0
  rcases Decidable.em (v4 = 0) with c6 | c6
  · replace e := ite_t c6 e
    obtain rfl := Option.some.inj e
    exact Go.mr (res := .inr "java/lang/IllegalStateException") (Go.thrown (M := mr m_F_leave (.inr "java/lang/IllegalStateException")) (M2 := mr m_F_needState (.inr "java/lang/IllegalStateException")) (as := [.int v4]) (rest := []) (h1 := h) (by have q := x_F_needState (l := l) (D := D) (ad := ad) (aC := aC) hf (h := h) (b := v4); rw [if_pos c6] at q; exact q) (WS.mr ws_F_56) (by decide +kernel) rfl rfl ⟨⟨Nat.le_of_ble_eq_true rfl, Nat.le_of_ble_eq_true rfl⟩, ⟨Nat.le_of_ble_eq_true rfl, Nat.le_of_ble_eq_true rfl⟩⟩ (Nat.le_of_ble_eq_true rfl) rfl (by decide) (by decide) (by decide))
  replace e := ite_f c6 e
  refine Go.callS (M2 := mr m_F_needState (.inl none)) (as := [.int v4]) (rest := []) (v := none) (h1 := h) (by have q := x_F_needState (l := l) (D := D) (ad := ad) (aC := aC) hf (h := h) (b := v4); rw [if_neg c6] at q; exact q) (WS.mr ws_F_56) (by decide +kernel) rfl rfl ⟨⟨Nat.le_of_ble_eq_true rfl, Nat.le_of_ble_eq_true rfl⟩, ⟨Nat.zero_le _, Nat.zero_le _⟩⟩ (Nat.le_of_ble_eq_true rfl) ?_
  show Go l D ad aC _ _ m_F_leave 28 [some (.ref a0), some (.int x1)] [] h 0 0
  refine Go.run (pc' := 29) [.aload_n 0] (ls' := [some (.ref a0), some (.int x1)]) (st' := [.ref a0]) (by decide +kernel) rfl rfl ?_
  refine Go.getR fo_F_22 k0 (by decide +kernel) ?_
  refine Go.run (pc' := 33) [.aload_n 0] (ls' := [some (.ref a0), some (.int x1)]) (st' := [.ref a0, .ref (fld a0 2)]) (by decide +kernel) rfl rfl ?_
  refine Go.getR fo_F_10 k0 (by decide +kernel) ?_
  refine Go.getR fo_F_89 (kf_7_0 k0) (by decide +kernel) ?_
  obtain ⟨v7, e8, e⟩ := bd_inv e
  refine Go.callV (M2 := m_P_remember) (a := (fld a0 2)) (as := [.ref (fld (fld a0 0) 0)]) (rest := []) (v := none) (h1 := v7) (x_P_remember hf hI (kf_7_2 k0) (kf_1_0 (kf_7_0 k0)) e8) wv_F_238 (kf_7_2 k0) kc_3 (by decide +kernel) rfl rfl ⟨⟨Nat.le_of_ble_eq_true rfl, Nat.le_of_ble_eq_true rfl⟩, ⟨Nat.zero_le _, Nat.zero_le _⟩⟩ (Nat.le_of_ble_eq_true rfl) ?_
  show Go l D ad aC _ _ m_F_leave 42 [some (.ref a0), some (.int x1)] [] v7 0 0
  refine Go.run (pc' := 43) [.aload_n 0] (ls' := [some (.ref a0), some (.int x1)]) (st' := [.ref a0]) (by decide +kernel) rfl rfl ?_
  refine Go.getR fo_F_10 k0 (by decide +kernel) ?_
  refine Go.run (pc' := 47) [.iload_n 1] (ls' := [some (.ref a0), some (.int x1)]) (st' := [.int x1, .ref (fld a0 0)]) (by decide +kernel) rfl rfl ?_
  obtain ⟨v9, e10, e⟩ := bd_inv e
  refine Go.callV (M2 := m_A_sendAway) (a := (fld a0 0)) (as := [.int x1]) (rest := []) (v := some (.int v9.1)) (h1 := v9.2) (x_A_sendAway hf hI (kf_7_0 k0) e10) wv_F_264 (kf_7_0 k0) kc_1 (by decide +kernel) rfl rfl ⟨⟨Nat.le_of_ble_eq_true rfl, Nat.le_of_ble_eq_true rfl⟩, ⟨Nat.zero_le _, Nat.zero_le _⟩⟩ (Nat.le_of_ble_eq_true rfl) ?_
  show Go l D ad aC _ _ m_F_leave 50 [some (.ref a0), some (.int x1)] [.int v9.1] v9.2 0 0
  obtain rfl := Option.some.inj e
  exact Go.iret (M := m_F_leave) rfl (by decide) (by decide) (by decide +kernel)
def f_F_swap_46  (a0 : Nat) (x1 : Int32) (x2 : Int32) (s0 : Int32) (h : HP) : Option (Res × HP) :=
  if s0 = 0 then some (.inr "java/lang/IllegalArgumentException", h) else
  (f_P_remember h (fld a0 2) (fld (fld a0 0) 0)).bind fun v2 =>
  (f_A_exchange v2 (fld a0 0) x1 x2).bind fun v4 =>
  (f_A_countRefusal v4.2 (fld a0 0) v4.1).bind fun v6 =>
  some (.inl (some (.int v6.1)), v6.2)
set_option maxHeartbeats 1000000 in
theorem x_F_swap_46 {l : Launch} {D : va_G} {ad : Nat → Nat} {aC : Nat → ClassId} (hf : l.flags = flags0) (hI : Inj ad) {a0 : Nat} {x1 : Int32} {x2 : Int32} {s0 : Int32} {h : HP} {r : Res × HP} (k0 : knd a0 = 7) (e : f_F_swap_46 a0 x1 x2 s0 h = some r) : Go l D ad aC (rmk (mr m_F_swap r.1)) (QM D ad aC (mr m_F_swap r.1) r.1 r.2) m_F_swap 46 [some (.ref a0), some (.int x1), some (.int x2)] [.int s0] h 0 0 := by
  unfold f_F_swap_46 at e
  rcases Decidable.em (s0 = 0) with c1 | c1
  · replace e := ite_t c1 e
    obtain rfl := Option.some.inj e
    exact Go.mr (res := .inr "java/lang/IllegalArgumentException") (Go.thrown (M := mr m_F_swap (.inr "java/lang/IllegalArgumentException")) (M2 := mr m_F_needArgument (.inr "java/lang/IllegalArgumentException")) (as := [.int s0]) (rest := []) (h1 := h) (by have q := x_F_needArgument (l := l) (D := D) (ad := ad) (aC := aC) hf (h := h) (b := s0); rw [if_pos c1] at q; exact q) (WS.mr ws_F_48) (by decide +kernel) rfl rfl ⟨⟨Nat.le_of_ble_eq_true rfl, Nat.le_of_ble_eq_true rfl⟩, ⟨Nat.le_of_ble_eq_true rfl, Nat.le_of_ble_eq_true rfl⟩⟩ (Nat.le_of_ble_eq_true rfl) rfl (by decide) (by decide) (by decide))
  replace e := ite_f c1 e
  refine Go.callS (M2 := mr m_F_needArgument (.inl none)) (as := [.int s0]) (rest := []) (v := none) (h1 := h) (by have q := x_F_needArgument (l := l) (D := D) (ad := ad) (aC := aC) hf (h := h) (b := s0); rw [if_neg c1] at q; exact q) (WS.mr ws_F_48) (by decide +kernel) rfl rfl ⟨⟨Nat.le_of_ble_eq_true rfl, Nat.le_of_ble_eq_true rfl⟩, ⟨Nat.zero_le _, Nat.zero_le _⟩⟩ (Nat.le_of_ble_eq_true rfl) ?_
  show Go l D ad aC _ _ m_F_swap 49 [some (.ref a0), some (.int x1), some (.int x2)] [] h 0 0
  refine Go.run (pc' := 50) [.aload_n 0] (ls' := [some (.ref a0), some (.int x1), some (.int x2)]) (st' := [.ref a0]) (by decide +kernel) rfl rfl ?_
  refine Go.getR fo_F_22 k0 (by decide +kernel) ?_
  refine Go.run (pc' := 54) [.aload_n 0] (ls' := [some (.ref a0), some (.int x1), some (.int x2)]) (st' := [.ref a0, .ref (fld a0 2)]) (by decide +kernel) rfl rfl ?_
  refine Go.getR fo_F_10 k0 (by decide +kernel) ?_
  refine Go.getR fo_F_89 (kf_7_0 k0) (by decide +kernel) ?_
  obtain ⟨v2, e3, e⟩ := bd_inv e
  refine Go.callV (M2 := m_P_remember) (a := (fld a0 2)) (as := [.ref (fld (fld a0 0) 0)]) (rest := []) (v := none) (h1 := v2) (x_P_remember hf hI (kf_7_2 k0) (kf_1_0 (kf_7_0 k0)) e3) wv_F_238 (kf_7_2 k0) kc_3 (by decide +kernel) rfl rfl ⟨⟨Nat.le_of_ble_eq_true rfl, Nat.le_of_ble_eq_true rfl⟩, ⟨Nat.zero_le _, Nat.zero_le _⟩⟩ (Nat.le_of_ble_eq_true rfl) ?_
  show Go l D ad aC _ _ m_F_swap 63 [some (.ref a0), some (.int x1), some (.int x2)] [] v2 0 0
  refine Go.run (pc' := 64) [.aload_n 0] (ls' := [some (.ref a0), some (.int x1), some (.int x2)]) (st' := [.ref a0]) (by decide +kernel) rfl rfl ?_
  refine Go.getR fo_F_10 k0 (by decide +kernel) ?_
  refine Go.run (pc' := 68) [.aload_n 0] (ls' := [some (.ref a0), some (.int x1), some (.int x2)]) (st' := [.ref a0, .ref (fld a0 0)]) (by decide +kernel) rfl rfl ?_
  refine Go.getR fo_F_10 k0 (by decide +kernel) ?_
  refine Go.run (pc' := 73) [.iload_n 1, .iload_n 2] (ls' := [some (.ref a0), some (.int x1), some (.int x2)]) (st' := [.int x2, .int x1, .ref (fld a0 0), .ref (fld a0 0)]) (by decide +kernel) rfl rfl ?_
  obtain ⟨v4, e5, e⟩ := bd_inv e
  refine Go.callV (M2 := m_A_exchange) (a := (fld a0 0)) (as := [.int x1, .int x2]) (rest := [.ref (fld a0 0)]) (v := some (.int v4.1)) (h1 := v4.2) (x_A_exchange hf hI (kf_7_0 k0) e5) wv_F_267 (kf_7_0 k0) kc_1 (by decide +kernel) rfl rfl ⟨⟨Nat.le_of_ble_eq_true rfl, Nat.le_of_ble_eq_true rfl⟩, ⟨Nat.zero_le _, Nat.zero_le _⟩⟩ (Nat.le_of_ble_eq_true rfl) ?_
  show Go l D ad aC _ _ m_F_swap 76 [some (.ref a0), some (.int x1), some (.int x2)] [.int v4.1, .ref (fld a0 0)] v4.2 0 0
  obtain ⟨v6, e7, e⟩ := bd_inv e
  refine Go.callV (M2 := m_A_countRefusal) (a := (fld a0 0)) (as := [.int v4.1]) (rest := []) (v := some (.int v6.1)) (h1 := v6.2) (x_A_countRefusal hf hI (kf_7_0 k0) e7) wv_F_258 (kf_7_0 k0) kc_1 (by decide +kernel) rfl rfl ⟨⟨Nat.le_of_ble_eq_true rfl, Nat.le_of_ble_eq_true rfl⟩, ⟨Nat.zero_le _, Nat.zero_le _⟩⟩ (Nat.le_of_ble_eq_true rfl) ?_
  show Go l D ad aC _ _ m_F_swap 79 [some (.ref a0), some (.int x1), some (.int x2)] [.int v6.1] v6.2 0 0
  obtain rfl := Option.some.inj e
  exact Go.iret (M := m_F_swap) rfl (by decide) (by decide) (by decide +kernel)
def f_F_swap_33  (a0 : Nat) (x1 : Int32) (x2 : Int32) (s0 : Int32) (h : HP) : Option (Res × HP) :=
  if s0 = 0 then some (.inr "java/lang/IndexOutOfBoundsException", h) else
  if x1 = x2 then
    f_F_swap_46 a0 x1 x2 (0 : Int32) h
  else
    f_F_swap_46 a0 x1 x2 (1 : Int32) h
set_option maxHeartbeats 1000000 in
theorem x_F_swap_33 {l : Launch} {D : va_G} {ad : Nat → Nat} {aC : Nat → ClassId} (hf : l.flags = flags0) (hI : Inj ad) {a0 : Nat} {x1 : Int32} {x2 : Int32} {s0 : Int32} {h : HP} {r : Res × HP} (k0 : knd a0 = 7) (e : f_F_swap_33 a0 x1 x2 s0 h = some r) : Go l D ad aC (rmk (mr m_F_swap r.1)) (QM D ad aC (mr m_F_swap r.1) r.1 r.2) m_F_swap 33 [some (.ref a0), some (.int x1), some (.int x2)] [.int s0] h 0 0 := by
  unfold f_F_swap_33 at e
  rcases Decidable.em (s0 = 0) with c1 | c1
  · replace e := ite_t c1 e
    obtain rfl := Option.some.inj e
    exact Go.mr (res := .inr "java/lang/IndexOutOfBoundsException") (Go.thrown (M := mr m_F_swap (.inr "java/lang/IndexOutOfBoundsException")) (M2 := mr m_F_needExists (.inr "java/lang/IndexOutOfBoundsException")) (as := [.int s0]) (rest := []) (h1 := h) (by have q := x_F_needExists (l := l) (D := D) (ad := ad) (aC := aC) hf (h := h) (b := s0); rw [if_pos c1] at q; exact q) (WS.mr ws_F_142) (by decide +kernel) rfl rfl ⟨⟨Nat.le_of_ble_eq_true rfl, Nat.le_of_ble_eq_true rfl⟩, ⟨Nat.le_of_ble_eq_true rfl, Nat.le_of_ble_eq_true rfl⟩⟩ (Nat.le_of_ble_eq_true rfl) rfl (by decide) (by decide) (by decide))
  replace e := ite_f c1 e
  refine Go.callS (M2 := mr m_F_needExists (.inl none)) (as := [.int s0]) (rest := []) (v := none) (h1 := h) (by have q := x_F_needExists (l := l) (D := D) (ad := ad) (aC := aC) hf (h := h) (b := s0); rw [if_neg c1] at q; exact q) (WS.mr ws_F_142) (by decide +kernel) rfl rfl ⟨⟨Nat.le_of_ble_eq_true rfl, Nat.le_of_ble_eq_true rfl⟩, ⟨Nat.zero_le _, Nat.zero_le _⟩⟩ (Nat.le_of_ble_eq_true rfl) ?_
  show Go l D ad aC _ _ m_F_swap 36 [some (.ref a0), some (.int x1), some (.int x2)] [] h 0 0
  refine Go.run (pc' := 38) [.iload_n 1, .iload_n 2] (ls' := [some (.ref a0), some (.int x1), some (.int x2)]) (st' := [.int x2, .int x1]) (by decide +kernel) rfl rfl ?_
  refine Go.ic_eq (off := 7) (tgt := 45) (by decide +kernel) (by decide) (fun c2 => ?_) (fun c2 => ?_)
  · replace e := ite_t c2 e
    refine Go.run (pc' := 46) [.iconst 0] (ls' := [some (.ref a0), some (.int x1), some (.int x2)]) (st' := [.int (0 : Int32)]) (by decide +kernel) rfl rfl ?_
    exact x_F_swap_46 hf hI k0 e
  · replace e := ite_f c2 e
    refine Go.run (pc' := 42) [.iconst 1] (ls' := [some (.ref a0), some (.int x1), some (.int x2)]) (st' := [.int (1 : Int32)]) (by decide +kernel) rfl rfl ?_
    refine Go.goto (off := 4) (tgt := 46) (by decide +kernel) (by decide) ?_
    exact x_F_swap_46 hf hI k0 e
def f_F_swap_32  (a0 : Nat) (x1 : Int32) (x2 : Int32) (h : HP) : Option (Res × HP) :=
  f_F_swap_33 a0 x1 x2 (0 : Int32) h
set_option maxHeartbeats 1000000 in
theorem x_F_swap_32 {l : Launch} {D : va_G} {ad : Nat → Nat} {aC : Nat → ClassId} (hf : l.flags = flags0) (hI : Inj ad) {a0 : Nat} {x1 : Int32} {x2 : Int32} {h : HP} {r : Res × HP} (k0 : knd a0 = 7) (e : f_F_swap_32 a0 x1 x2 h = some r) : Go l D ad aC (rmk (mr m_F_swap r.1)) (QM D ad aC (mr m_F_swap r.1) r.1 r.2) m_F_swap 32 [some (.ref a0), some (.int x1), some (.int x2)] [] h 0 0 := by
  unfold f_F_swap_32 at e
  refine Go.run (pc' := 33) [.iconst 0] (ls' := [some (.ref a0), some (.int x1), some (.int x2)]) (st' := [.int (0 : Int32)]) (by decide +kernel) rfl rfl ?_
  exact x_F_swap_33 hf hI k0 e
def f_F_swap (h : HP) (a0 : Nat) (x1 : Int32) (x2 : Int32) : Option (Res × HP) :=
  (f_S_hasDealer h (fld (fld a0 0) 0) x1).bind fun v1 =>
  if v1 = 0 then
    f_F_swap_32 a0 x1 x2 h
  else
    (f_S_hasDealer h (fld (fld a0 0) 0) x2).bind fun v4 =>
    if v4 = 0 then
      f_F_swap_32 a0 x1 x2 h
    else
      f_F_swap_33 a0 x1 x2 (1 : Int32) h
set_option maxHeartbeats 1000000 in
theorem x_F_swap {l : Launch} {D : va_G} {ad : Nat → Nat} {aC : Nat → ClassId} (hf : l.flags = flags0) (hI : Inj ad) {h : HP} {a0 : Nat} {x1 : Int32} {x2 : Int32} {r : Res × HP} (k0 : knd a0 = 7) (e : f_F_swap h a0 x1 x2 = some r) : CT l D ad aC (mr m_F_swap r.1) [.ref a0, .int x1, .int x2] h r.1 r.2 := by
  refine CT.ofGoR (by decide +kernel) rfl (Nat.le_of_ble_eq_true rfl) ?_
  unfold f_F_swap at e
  show Go l D ad aC _ _ m_F_swap 0 [some (.ref a0), some (.int x1), some (.int x2)] [] h 0 0
  refine Go.run (pc' := 1) [.aload_n 0] (ls' := [some (.ref a0), some (.int x1), some (.int x2)]) (st' := [.ref a0]) (by decide +kernel) rfl rfl ?_
  refine Go.getR fo_F_10 k0 (by decide +kernel) ?_
  refine Go.getR fo_F_89 (kf_7_0 k0) (by decide +kernel) ?_
  refine Go.run (pc' := 8) [.iload_n 1] (ls' := [some (.ref a0), some (.int x1), some (.int x2)]) (st' := [.int x1, .ref (fld (fld a0 0) 0)]) (by decide +kernel) rfl rfl ?_
  obtain ⟨v1, e2, e⟩ := bd_inv e
  refine Go.callV (M2 := m_S_hasDealer) (a := (fld (fld a0 0) 0)) (as := [.int x1]) (rest := []) (v := some (.int v1)) (h1 := h) (x_S_hasDealer hf hI (kf_1_0 (kf_7_0 k0)) e2) wv_F_184 (kf_1_0 (kf_7_0 k0)) kc_6 (by decide +kernel) rfl rfl ⟨⟨Nat.le_of_ble_eq_true rfl, Nat.le_of_ble_eq_true rfl⟩, ⟨Nat.zero_le _, Nat.zero_le _⟩⟩ (Nat.le_of_ble_eq_true rfl) ?_
  show Go l D ad aC _ _ m_F_swap 11 [some (.ref a0), some (.int x1), some (.int x2)] [.int v1] h 0 0
  refine Go.if_eq (off := 21) (tgt := 32) (by decide +kernel) (by decide) (fun c3 => ?_) (fun c3 => ?_)
  · replace e := ite_t c3 e
    exact x_F_swap_32 hf hI k0 e
  · replace e := ite_f c3 e
    refine Go.run (pc' := 15) [.aload_n 0] (ls' := [some (.ref a0), some (.int x1), some (.int x2)]) (st' := [.ref a0]) (by decide +kernel) rfl rfl ?_
    refine Go.getR fo_F_10 k0 (by decide +kernel) ?_
    refine Go.getR fo_F_89 (kf_7_0 k0) (by decide +kernel) ?_
    refine Go.run (pc' := 22) [.iload_n 2] (ls' := [some (.ref a0), some (.int x1), some (.int x2)]) (st' := [.int x2, .ref (fld (fld a0 0) 0)]) (by decide +kernel) rfl rfl ?_
    obtain ⟨v4, e5, e⟩ := bd_inv e
    refine Go.callV (M2 := m_S_hasDealer) (a := (fld (fld a0 0) 0)) (as := [.int x2]) (rest := []) (v := some (.int v4)) (h1 := h) (x_S_hasDealer hf hI (kf_1_0 (kf_7_0 k0)) e5) wv_F_184 (kf_1_0 (kf_7_0 k0)) kc_6 (by decide +kernel) rfl rfl ⟨⟨Nat.le_of_ble_eq_true rfl, Nat.le_of_ble_eq_true rfl⟩, ⟨Nat.zero_le _, Nat.zero_le _⟩⟩ (Nat.le_of_ble_eq_true rfl) ?_
    show Go l D ad aC _ _ m_F_swap 25 [some (.ref a0), some (.int x1), some (.int x2)] [.int v4] h 0 0
    refine Go.if_eq (off := 7) (tgt := 32) (by decide +kernel) (by decide) (fun c6 => ?_) (fun c6 => ?_)
    · replace e := ite_t c6 e
      exact x_F_swap_32 hf hI k0 e
    · replace e := ite_f c6 e
      refine Go.run (pc' := 29) [.iconst 1] (ls' := [some (.ref a0), some (.int x1), some (.int x2)]) (st' := [.int (1 : Int32)]) (by decide +kernel) rfl rfl ?_
      refine Go.goto (off := 4) (tgt := 33) (by decide +kernel) (by decide) ?_
      exact x_F_swap_33 hf hI k0 e
def f_F_days (h : HP) (a0 : Nat) (x1 : Int32) : Option (Res × HP) :=
  (f_F_inRange h x1 (1 : Int32) (60 : Int32)).bind fun v1 =>
  if v1 = 0 then some (.inr "java/lang/IllegalArgumentException", h) else
  (f_P_remember h (fld a0 2) (fld (fld a0 0) 0)).bind fun v4 =>
  (f_A_passDays v4 (fld a0 0) x1).bind fun v6 =>
  some (.inl (some (.int v6.1)), v6.2)
set_option maxHeartbeats 1000000 in
theorem x_F_days {l : Launch} {D : va_G} {ad : Nat → Nat} {aC : Nat → ClassId} (hf : l.flags = flags0) (hI : Inj ad) {h : HP} {a0 : Nat} {x1 : Int32} {r : Res × HP} (k0 : knd a0 = 7) (e : f_F_days h a0 x1 = some r) : CT l D ad aC (mr m_F_days r.1) [.ref a0, .int x1] h r.1 r.2 := by
  refine CT.ofGoR (by decide +kernel) rfl (Nat.le_of_ble_eq_true rfl) ?_
  unfold f_F_days at e
  show Go l D ad aC _ _ m_F_days 0 [some (.ref a0), some (.int x1)] [] h 0 0
  refine Go.run (pc' := 4) [.iload_n 1, .iconst 1, .bipush (60)] (ls' := [some (.ref a0), some (.int x1)]) (st' := [.int (60 : Int32), .int (1 : Int32), .int x1]) (by decide +kernel) rfl rfl ?_
  obtain ⟨v1, e2, e⟩ := bd_inv e
  refine Go.callS (M2 := m_F_inRange) (as := [.int x1, .int (1 : Int32), .int (60 : Int32)]) (rest := []) (v := some (.int v1)) (h1 := h) (x_F_inRange hf hI  e2) ws_F_44 (by decide +kernel) rfl rfl ⟨⟨Nat.le_of_ble_eq_true rfl, Nat.le_of_ble_eq_true rfl⟩, ⟨Nat.zero_le _, Nat.zero_le _⟩⟩ (Nat.le_of_ble_eq_true rfl) ?_
  show Go l D ad aC _ _ m_F_days 7 [some (.ref a0), some (.int x1)] [.int v1] h 0 0
  rcases Decidable.em (v1 = 0) with c3 | c3
  · replace e := ite_t c3 e
    obtain rfl := Option.some.inj e
    exact Go.mr (res := .inr "java/lang/IllegalArgumentException") (Go.thrown (M := mr m_F_days (.inr "java/lang/IllegalArgumentException")) (M2 := mr m_F_needArgument (.inr "java/lang/IllegalArgumentException")) (as := [.int v1]) (rest := []) (h1 := h) (by have q := x_F_needArgument (l := l) (D := D) (ad := ad) (aC := aC) hf (h := h) (b := v1); rw [if_pos c3] at q; exact q) (WS.mr ws_F_48) (by decide +kernel) rfl rfl ⟨⟨Nat.le_of_ble_eq_true rfl, Nat.le_of_ble_eq_true rfl⟩, ⟨Nat.le_of_ble_eq_true rfl, Nat.le_of_ble_eq_true rfl⟩⟩ (Nat.le_of_ble_eq_true rfl) rfl (by decide) (by decide) (by decide))
  replace e := ite_f c3 e
  refine Go.callS (M2 := mr m_F_needArgument (.inl none)) (as := [.int v1]) (rest := []) (v := none) (h1 := h) (by have q := x_F_needArgument (l := l) (D := D) (ad := ad) (aC := aC) hf (h := h) (b := v1); rw [if_neg c3] at q; exact q) (WS.mr ws_F_48) (by decide +kernel) rfl rfl ⟨⟨Nat.le_of_ble_eq_true rfl, Nat.le_of_ble_eq_true rfl⟩, ⟨Nat.zero_le _, Nat.zero_le _⟩⟩ (Nat.le_of_ble_eq_true rfl) ?_
  show Go l D ad aC _ _ m_F_days 10 [some (.ref a0), some (.int x1)] [] h 0 0
  refine Go.run (pc' := 11) [.aload_n 0] (ls' := [some (.ref a0), some (.int x1)]) (st' := [.ref a0]) (by decide +kernel) rfl rfl ?_
  refine Go.getR fo_F_22 k0 (by decide +kernel) ?_
  refine Go.run (pc' := 15) [.aload_n 0] (ls' := [some (.ref a0), some (.int x1)]) (st' := [.ref a0, .ref (fld a0 2)]) (by decide +kernel) rfl rfl ?_
  refine Go.getR fo_F_10 k0 (by decide +kernel) ?_
  refine Go.getR fo_F_89 (kf_7_0 k0) (by decide +kernel) ?_
  obtain ⟨v4, e5, e⟩ := bd_inv e
  refine Go.callV (M2 := m_P_remember) (a := (fld a0 2)) (as := [.ref (fld (fld a0 0) 0)]) (rest := []) (v := none) (h1 := v4) (x_P_remember hf hI (kf_7_2 k0) (kf_1_0 (kf_7_0 k0)) e5) wv_F_238 (kf_7_2 k0) kc_3 (by decide +kernel) rfl rfl ⟨⟨Nat.le_of_ble_eq_true rfl, Nat.le_of_ble_eq_true rfl⟩, ⟨Nat.zero_le _, Nat.zero_le _⟩⟩ (Nat.le_of_ble_eq_true rfl) ?_
  show Go l D ad aC _ _ m_F_days 24 [some (.ref a0), some (.int x1)] [] v4 0 0
  refine Go.run (pc' := 25) [.aload_n 0] (ls' := [some (.ref a0), some (.int x1)]) (st' := [.ref a0]) (by decide +kernel) rfl rfl ?_
  refine Go.getR fo_F_10 k0 (by decide +kernel) ?_
  refine Go.run (pc' := 29) [.iload_n 1] (ls' := [some (.ref a0), some (.int x1)]) (st' := [.int x1, .ref (fld a0 0)]) (by decide +kernel) rfl rfl ?_
  obtain ⟨v6, e7, e⟩ := bd_inv e
  refine Go.callV (M2 := m_A_passDays) (a := (fld a0 0)) (as := [.int x1]) (rest := []) (v := some (.int v6.1)) (h1 := v6.2) (x_A_passDays hf hI (kf_7_0 k0) e7) wv_F_270 (kf_7_0 k0) kc_1 (by decide +kernel) rfl rfl ⟨⟨Nat.le_of_ble_eq_true rfl, Nat.le_of_ble_eq_true rfl⟩, ⟨Nat.zero_le _, Nat.zero_le _⟩⟩ (Nat.le_of_ble_eq_true rfl) ?_
  show Go l D ad aC _ _ m_F_days 32 [some (.ref a0), some (.int x1)] [.int v6.1] v6.2 0 0
  obtain rfl := Option.some.inj e
  exact Go.iret (M := m_F_days) rfl (by decide) (by decide) (by decide +kernel)
def f_F_set (h : HP) (a0 : Nat) (x1 : Int32) (x2 : Int32) : Option (Res × HP) :=
  (f_A_isSetting h x1 x2).bind fun v1 =>
  if v1 = 0 then some (.inr "java/lang/IllegalArgumentException", h) else
  (f_P_remember h (fld a0 2) (fld (fld a0 0) 0)).bind fun v4 =>
  (f_A_changeSetting v4 (fld a0 0) x1 x2).bind fun v6 =>
  some (.inl (some (.int v6.1)), v6.2)
set_option maxHeartbeats 1000000 in
theorem x_F_set {l : Launch} {D : va_G} {ad : Nat → Nat} {aC : Nat → ClassId} (hf : l.flags = flags0) (hI : Inj ad) {h : HP} {a0 : Nat} {x1 : Int32} {x2 : Int32} {r : Res × HP} (k0 : knd a0 = 7) (e : f_F_set h a0 x1 x2 = some r) : CT l D ad aC (mr m_F_set r.1) [.ref a0, .int x1, .int x2] h r.1 r.2 := by
  refine CT.ofGoR (by decide +kernel) rfl (Nat.le_of_ble_eq_true rfl) ?_
  unfold f_F_set at e
  show Go l D ad aC _ _ m_F_set 0 [some (.ref a0), some (.int x1), some (.int x2)] [] h 0 0
  refine Go.run (pc' := 2) [.iload_n 1, .iload_n 2] (ls' := [some (.ref a0), some (.int x1), some (.int x2)]) (st' := [.int x2, .int x1]) (by decide +kernel) rfl rfl ?_
  obtain ⟨v1, e2, e⟩ := bd_inv e
  refine Go.callS (M2 := m_A_isSetting) (as := [.int x1, .int x2]) (rest := []) (v := some (.int v1)) (h1 := h) (x_A_isSetting hf hI  e2) ws_F_273 (by decide +kernel) rfl rfl ⟨⟨Nat.le_of_ble_eq_true rfl, Nat.le_of_ble_eq_true rfl⟩, ⟨Nat.zero_le _, Nat.zero_le _⟩⟩ (Nat.le_of_ble_eq_true rfl) ?_
  show Go l D ad aC _ _ m_F_set 5 [some (.ref a0), some (.int x1), some (.int x2)] [.int v1] h 0 0
  rcases Decidable.em (v1 = 0) with c3 | c3
  · replace e := ite_t c3 e
    obtain rfl := Option.some.inj e
    exact Go.mr (res := .inr "java/lang/IllegalArgumentException") (Go.thrown (M := mr m_F_set (.inr "java/lang/IllegalArgumentException")) (M2 := mr m_F_needArgument (.inr "java/lang/IllegalArgumentException")) (as := [.int v1]) (rest := []) (h1 := h) (by have q := x_F_needArgument (l := l) (D := D) (ad := ad) (aC := aC) hf (h := h) (b := v1); rw [if_pos c3] at q; exact q) (WS.mr ws_F_48) (by decide +kernel) rfl rfl ⟨⟨Nat.le_of_ble_eq_true rfl, Nat.le_of_ble_eq_true rfl⟩, ⟨Nat.le_of_ble_eq_true rfl, Nat.le_of_ble_eq_true rfl⟩⟩ (Nat.le_of_ble_eq_true rfl) rfl (by decide) (by decide) (by decide))
  replace e := ite_f c3 e
  refine Go.callS (M2 := mr m_F_needArgument (.inl none)) (as := [.int v1]) (rest := []) (v := none) (h1 := h) (by have q := x_F_needArgument (l := l) (D := D) (ad := ad) (aC := aC) hf (h := h) (b := v1); rw [if_neg c3] at q; exact q) (WS.mr ws_F_48) (by decide +kernel) rfl rfl ⟨⟨Nat.le_of_ble_eq_true rfl, Nat.le_of_ble_eq_true rfl⟩, ⟨Nat.zero_le _, Nat.zero_le _⟩⟩ (Nat.le_of_ble_eq_true rfl) ?_
  show Go l D ad aC _ _ m_F_set 8 [some (.ref a0), some (.int x1), some (.int x2)] [] h 0 0
  refine Go.run (pc' := 9) [.aload_n 0] (ls' := [some (.ref a0), some (.int x1), some (.int x2)]) (st' := [.ref a0]) (by decide +kernel) rfl rfl ?_
  refine Go.getR fo_F_22 k0 (by decide +kernel) ?_
  refine Go.run (pc' := 13) [.aload_n 0] (ls' := [some (.ref a0), some (.int x1), some (.int x2)]) (st' := [.ref a0, .ref (fld a0 2)]) (by decide +kernel) rfl rfl ?_
  refine Go.getR fo_F_10 k0 (by decide +kernel) ?_
  refine Go.getR fo_F_89 (kf_7_0 k0) (by decide +kernel) ?_
  obtain ⟨v4, e5, e⟩ := bd_inv e
  refine Go.callV (M2 := m_P_remember) (a := (fld a0 2)) (as := [.ref (fld (fld a0 0) 0)]) (rest := []) (v := none) (h1 := v4) (x_P_remember hf hI (kf_7_2 k0) (kf_1_0 (kf_7_0 k0)) e5) wv_F_238 (kf_7_2 k0) kc_3 (by decide +kernel) rfl rfl ⟨⟨Nat.le_of_ble_eq_true rfl, Nat.le_of_ble_eq_true rfl⟩, ⟨Nat.zero_le _, Nat.zero_le _⟩⟩ (Nat.le_of_ble_eq_true rfl) ?_
  show Go l D ad aC _ _ m_F_set 22 [some (.ref a0), some (.int x1), some (.int x2)] [] v4 0 0
  refine Go.run (pc' := 23) [.aload_n 0] (ls' := [some (.ref a0), some (.int x1), some (.int x2)]) (st' := [.ref a0]) (by decide +kernel) rfl rfl ?_
  refine Go.getR fo_F_10 k0 (by decide +kernel) ?_
  refine Go.run (pc' := 28) [.iload_n 1, .iload_n 2] (ls' := [some (.ref a0), some (.int x1), some (.int x2)]) (st' := [.int x2, .int x1, .ref (fld a0 0)]) (by decide +kernel) rfl rfl ?_
  obtain ⟨v6, e7, e⟩ := bd_inv e
  refine Go.callV (M2 := m_A_changeSetting) (a := (fld a0 0)) (as := [.int x1, .int x2]) (rest := []) (v := some (.int v6.1)) (h1 := v6.2) (x_A_changeSetting hf hI (kf_7_0 k0) e7) wv_F_276 (kf_7_0 k0) kc_1 (by decide +kernel) rfl rfl ⟨⟨Nat.le_of_ble_eq_true rfl, Nat.le_of_ble_eq_true rfl⟩, ⟨Nat.zero_le _, Nat.zero_le _⟩⟩ (Nat.le_of_ble_eq_true rfl) ?_
  show Go l D ad aC _ _ m_F_set 31 [some (.ref a0), some (.int x1), some (.int x2)] [.int v6.1] v6.2 0 0
  obtain rfl := Option.some.inj e
  exact Go.iret (M := m_F_set) rfl (by decide) (by decide) (by decide +kernel)
def f_F_undo_15  (a0 : Nat) (s0 : Int32) (h : HP) : Option (Res × HP) :=
  if s0 = 0 then some (.inr "java/lang/IllegalStateException", h) else
  (f_P_takeLast h (fld a0 2)).bind fun v2 =>
  if knd v2.1 = 6 then
  (f_A_become v2.2 (fld a0 0) v2.1).bind fun v5 =>
  (f_P_count v5 (fld a0 2)).bind fun v7 =>
  some (.inl (some (.int v7)), v5)
  else none
set_option maxHeartbeats 1000000 in
theorem x_F_undo_15 {l : Launch} {D : va_G} {ad : Nat → Nat} {aC : Nat → ClassId} (hf : l.flags = flags0) (hI : Inj ad) {a0 : Nat} {s0 : Int32} {h : HP} {r : Res × HP} (k0 : knd a0 = 7) (e : f_F_undo_15 a0 s0 h = some r) : Go l D ad aC (rmk (mr m_F_undo r.1)) (QM D ad aC (mr m_F_undo r.1) r.1 r.2) m_F_undo 15 [some (.ref a0)] [.int s0] h 0 0 := by
  unfold f_F_undo_15 at e
  rcases Decidable.em (s0 = 0) with c1 | c1
  · replace e := ite_t c1 e
    obtain rfl := Option.some.inj e
    exact Go.mr (res := .inr "java/lang/IllegalStateException") (Go.thrown (M := mr m_F_undo (.inr "java/lang/IllegalStateException")) (M2 := mr m_F_needState (.inr "java/lang/IllegalStateException")) (as := [.int s0]) (rest := []) (h1 := h) (by have q := x_F_needState (l := l) (D := D) (ad := ad) (aC := aC) hf (h := h) (b := s0); rw [if_pos c1] at q; exact q) (WS.mr ws_F_56) (by decide +kernel) rfl rfl ⟨⟨Nat.le_of_ble_eq_true rfl, Nat.le_of_ble_eq_true rfl⟩, ⟨Nat.le_of_ble_eq_true rfl, Nat.le_of_ble_eq_true rfl⟩⟩ (Nat.le_of_ble_eq_true rfl) rfl (by decide) (by decide) (by decide))
  replace e := ite_f c1 e
  refine Go.callS (M2 := mr m_F_needState (.inl none)) (as := [.int s0]) (rest := []) (v := none) (h1 := h) (by have q := x_F_needState (l := l) (D := D) (ad := ad) (aC := aC) hf (h := h) (b := s0); rw [if_neg c1] at q; exact q) (WS.mr ws_F_56) (by decide +kernel) rfl rfl ⟨⟨Nat.le_of_ble_eq_true rfl, Nat.le_of_ble_eq_true rfl⟩, ⟨Nat.zero_le _, Nat.zero_le _⟩⟩ (Nat.le_of_ble_eq_true rfl) ?_
  show Go l D ad aC _ _ m_F_undo 18 [some (.ref a0)] [] h 0 0
  refine Go.run (pc' := 19) [.aload_n 0] (ls' := [some (.ref a0)]) (st' := [.ref a0]) (by decide +kernel) rfl rfl ?_
  refine Go.getR fo_F_10 k0 (by decide +kernel) ?_
  refine Go.run (pc' := 23) [.aload_n 0] (ls' := [some (.ref a0)]) (st' := [.ref a0, .ref (fld a0 0)]) (by decide +kernel) rfl rfl ?_
  refine Go.getR fo_F_22 k0 (by decide +kernel) ?_
  obtain ⟨v2, e3, e⟩ := bd_inv e
  refine Go.callV (M2 := m_P_takeLast) (a := (fld a0 2)) (as := []) (rest := [.ref (fld a0 0)]) (v := some (.ref v2.1)) (h1 := v2.2) (x_P_takeLast hf hI (kf_7_2 k0) e3) wv_F_282 (kf_7_2 k0) kc_3 (by decide +kernel) rfl rfl ⟨⟨Nat.le_of_ble_eq_true rfl, Nat.le_of_ble_eq_true rfl⟩, ⟨Nat.zero_le _, Nat.zero_le _⟩⟩ (Nat.le_of_ble_eq_true rfl) ?_
  show Go l D ad aC _ _ m_F_undo 29 [some (.ref a0)] [.ref v2.1, .ref (fld a0 0)] v2.2 0 0
  obtain ⟨g4, e⟩ := gd_inv e
  obtain ⟨v5, e6, e⟩ := bd_inv e
  refine Go.callV (M2 := m_A_become) (a := (fld a0 0)) (as := [.ref v2.1]) (rest := []) (v := none) (h1 := v5) (x_A_become hf hI (kf_7_0 k0) g4 e6) wv_F_286 (kf_7_0 k0) kc_1 (by decide +kernel) rfl rfl ⟨⟨Nat.le_of_ble_eq_true rfl, Nat.le_of_ble_eq_true rfl⟩, ⟨Nat.zero_le _, Nat.zero_le _⟩⟩ (Nat.le_of_ble_eq_true rfl) ?_
  show Go l D ad aC _ _ m_F_undo 32 [some (.ref a0)] [] v5 0 0
  refine Go.run (pc' := 33) [.aload_n 0] (ls' := [some (.ref a0)]) (st' := [.ref a0]) (by decide +kernel) rfl rfl ?_
  refine Go.getR fo_F_22 k0 (by decide +kernel) ?_
  obtain ⟨v7, e8, e⟩ := bd_inv e
  refine Go.callV (M2 := m_P_count) (a := (fld a0 2)) (as := []) (rest := []) (v := some (.int v7)) (h1 := v5) (x_P_count hf hI (kf_7_2 k0) e8) wv_F_279 (kf_7_2 k0) kc_3 (by decide +kernel) rfl rfl ⟨⟨Nat.le_of_ble_eq_true rfl, Nat.le_of_ble_eq_true rfl⟩, ⟨Nat.zero_le _, Nat.zero_le _⟩⟩ (Nat.le_of_ble_eq_true rfl) ?_
  show Go l D ad aC _ _ m_F_undo 39 [some (.ref a0)] [.int v7] v5 0 0
  obtain rfl := Option.some.inj e
  exact Go.iret (M := m_F_undo) rfl (by decide) (by decide) (by decide +kernel)
def f_F_undo (h : HP) (a0 : Nat) : Option (Res × HP) :=
  (f_P_count h (fld a0 2)).bind fun v1 =>
  if v1 ≤ 0 then
    f_F_undo_15 a0 (0 : Int32) h
  else
    f_F_undo_15 a0 (1 : Int32) h
set_option maxHeartbeats 1000000 in
theorem x_F_undo {l : Launch} {D : va_G} {ad : Nat → Nat} {aC : Nat → ClassId} (hf : l.flags = flags0) (hI : Inj ad) {h : HP} {a0 : Nat} {r : Res × HP} (k0 : knd a0 = 7) (e : f_F_undo h a0 = some r) : CT l D ad aC (mr m_F_undo r.1) [.ref a0] h r.1 r.2 := by
  refine CT.ofGoR (by decide +kernel) rfl (Nat.le_of_ble_eq_true rfl) ?_
  unfold f_F_undo at e
  show Go l D ad aC _ _ m_F_undo 0 [some (.ref a0)] [] h 0 0
  refine Go.run (pc' := 1) [.aload_n 0] (ls' := [some (.ref a0)]) (st' := [.ref a0]) (by decide +kernel) rfl rfl ?_
  refine Go.getR fo_F_22 k0 (by decide +kernel) ?_
  obtain ⟨v1, e2, e⟩ := bd_inv e
  refine Go.callV (M2 := m_P_count) (a := (fld a0 2)) (as := []) (rest := []) (v := some (.int v1)) (h1 := h) (x_P_count hf hI (kf_7_2 k0) e2) wv_F_279 (kf_7_2 k0) kc_3 (by decide +kernel) rfl rfl ⟨⟨Nat.le_of_ble_eq_true rfl, Nat.le_of_ble_eq_true rfl⟩, ⟨Nat.zero_le _, Nat.zero_le _⟩⟩ (Nat.le_of_ble_eq_true rfl) ?_
  show Go l D ad aC _ _ m_F_undo 7 [some (.ref a0)] [.int v1] h 0 0
  refine Go.if_le (off := 7) (tgt := 14) (by decide +kernel) (by decide) (fun c3 => ?_) (fun c3 => ?_)
  · replace e := ite_t c3 e
    refine Go.run (pc' := 15) [.iconst 0] (ls' := [some (.ref a0)]) (st' := [.int (0 : Int32)]) (by decide +kernel) rfl rfl ?_
    exact x_F_undo_15 hf hI k0 e
  · replace e := ite_f c3 e
    refine Go.run (pc' := 11) [.iconst 1] (ls' := [some (.ref a0)]) (st' := [.int (1 : Int32)]) (by decide +kernel) rfl rfl ?_
    refine Go.goto (off := 4) (tgt := 15) (by decide +kernel) (by decide) ?_
    exact x_F_undo_15 hf hI k0 e
def f_F_rentIf_34  (a0 : Nat) (x1 : Int32) (x2 : Int32) (x3 : Int32) (s0 : Int32) (h : HP) : Option (Res × HP) :=
  if s0 = 0 then some (.inr "java/lang/IndexOutOfBoundsException", h) else
  (f_A_become h (fld a0 1) (fld (fld a0 0) 0)).bind fun v2 =>
  (f_A_rentMovedTo v2 (fld a0 1) x1 x2 x3).bind fun v4 =>
  some (.inl (some (.int v4.1)), v4.2)
set_option maxHeartbeats 1000000 in
theorem x_F_rentIf_34 {l : Launch} {D : va_G} {ad : Nat → Nat} {aC : Nat → ClassId} (hf : l.flags = flags0) (hI : Inj ad) {a0 : Nat} {x1 : Int32} {x2 : Int32} {x3 : Int32} {s0 : Int32} {h : HP} {r : Res × HP} (k0 : knd a0 = 7) (e : f_F_rentIf_34 a0 x1 x2 x3 s0 h = some r) : Go l D ad aC (rmk (mr m_F_rentIf r.1)) (QM D ad aC (mr m_F_rentIf r.1) r.1 r.2) m_F_rentIf 34 [some (.ref a0), some (.int x1), some (.int x2), some (.int x3)] [.int s0] h 0 0 := by
  unfold f_F_rentIf_34 at e
  rcases Decidable.em (s0 = 0) with c1 | c1
  · replace e := ite_t c1 e
    obtain rfl := Option.some.inj e
    exact Go.mr (res := .inr "java/lang/IndexOutOfBoundsException") (Go.thrown (M := mr m_F_rentIf (.inr "java/lang/IndexOutOfBoundsException")) (M2 := mr m_F_needExists (.inr "java/lang/IndexOutOfBoundsException")) (as := [.int s0]) (rest := []) (h1 := h) (by have q := x_F_needExists (l := l) (D := D) (ad := ad) (aC := aC) hf (h := h) (b := s0); rw [if_pos c1] at q; exact q) (WS.mr ws_F_142) (by decide +kernel) rfl rfl ⟨⟨Nat.le_of_ble_eq_true rfl, Nat.le_of_ble_eq_true rfl⟩, ⟨Nat.le_of_ble_eq_true rfl, Nat.le_of_ble_eq_true rfl⟩⟩ (Nat.le_of_ble_eq_true rfl) rfl (by decide) (by decide) (by decide))
  replace e := ite_f c1 e
  refine Go.callS (M2 := mr m_F_needExists (.inl none)) (as := [.int s0]) (rest := []) (v := none) (h1 := h) (by have q := x_F_needExists (l := l) (D := D) (ad := ad) (aC := aC) hf (h := h) (b := s0); rw [if_neg c1] at q; exact q) (WS.mr ws_F_142) (by decide +kernel) rfl rfl ⟨⟨Nat.le_of_ble_eq_true rfl, Nat.le_of_ble_eq_true rfl⟩, ⟨Nat.zero_le _, Nat.zero_le _⟩⟩ (Nat.le_of_ble_eq_true rfl) ?_
  show Go l D ad aC _ _ m_F_rentIf 37 [some (.ref a0), some (.int x1), some (.int x2), some (.int x3)] [] h 0 0
  refine Go.run (pc' := 38) [.aload_n 0] (ls' := [some (.ref a0), some (.int x1), some (.int x2), some (.int x3)]) (st' := [.ref a0]) (by decide +kernel) rfl rfl ?_
  refine Go.getR fo_F_16 k0 (by decide +kernel) ?_
  refine Go.run (pc' := 42) [.aload_n 0] (ls' := [some (.ref a0), some (.int x1), some (.int x2), some (.int x3)]) (st' := [.ref a0, .ref (fld a0 1)]) (by decide +kernel) rfl rfl ?_
  refine Go.getR fo_F_10 k0 (by decide +kernel) ?_
  refine Go.getR fo_F_89 (kf_7_0 k0) (by decide +kernel) ?_
  obtain ⟨v2, e3, e⟩ := bd_inv e
  refine Go.callV (M2 := m_A_become) (a := (fld a0 1)) (as := [.ref (fld (fld a0 0) 0)]) (rest := []) (v := none) (h1 := v2) (x_A_become hf hI (kf_7_1 k0) (kf_1_0 (kf_7_0 k0)) e3) wv_F_286 (kf_7_1 k0) kc_1 (by decide +kernel) rfl rfl ⟨⟨Nat.le_of_ble_eq_true rfl, Nat.le_of_ble_eq_true rfl⟩, ⟨Nat.zero_le _, Nat.zero_le _⟩⟩ (Nat.le_of_ble_eq_true rfl) ?_
  show Go l D ad aC _ _ m_F_rentIf 51 [some (.ref a0), some (.int x1), some (.int x2), some (.int x3)] [] v2 0 0
  refine Go.run (pc' := 52) [.aload_n 0] (ls' := [some (.ref a0), some (.int x1), some (.int x2), some (.int x3)]) (st' := [.ref a0]) (by decide +kernel) rfl rfl ?_
  refine Go.getR fo_F_16 k0 (by decide +kernel) ?_
  refine Go.run (pc' := 58) [.iload_n 1, .iload_n 2, .iload_n 3] (ls' := [some (.ref a0), some (.int x1), some (.int x2), some (.int x3)]) (st' := [.int x3, .int x2, .int x1, .ref (fld a0 1)]) (by decide +kernel) rfl rfl ?_
  obtain ⟨v4, e5, e⟩ := bd_inv e
  refine Go.callV (M2 := m_A_rentMovedTo) (a := (fld a0 1)) (as := [.int x1, .int x2, .int x3]) (rest := []) (v := some (.int v4.1)) (h1 := v4.2) (x_A_rentMovedTo hf hI (kf_7_1 k0) e5) wv_F_289 (kf_7_1 k0) kc_1 (by decide +kernel) rfl rfl ⟨⟨Nat.le_of_ble_eq_true rfl, Nat.le_of_ble_eq_true rfl⟩, ⟨Nat.zero_le _, Nat.zero_le _⟩⟩ (Nat.le_of_ble_eq_true rfl) ?_
  show Go l D ad aC _ _ m_F_rentIf 61 [some (.ref a0), some (.int x1), some (.int x2), some (.int x3)] [.int v4.1] v4.2 0 0
  obtain rfl := Option.some.inj e
  exact Go.iret (M := m_F_rentIf) rfl (by decide) (by decide) (by decide +kernel)
def f_F_rentIf_33  (a0 : Nat) (x1 : Int32) (x2 : Int32) (x3 : Int32) (h : HP) : Option (Res × HP) :=
  f_F_rentIf_34 a0 x1 x2 x3 (0 : Int32) h
set_option maxHeartbeats 1000000 in
theorem x_F_rentIf_33 {l : Launch} {D : va_G} {ad : Nat → Nat} {aC : Nat → ClassId} (hf : l.flags = flags0) (hI : Inj ad) {a0 : Nat} {x1 : Int32} {x2 : Int32} {x3 : Int32} {h : HP} {r : Res × HP} (k0 : knd a0 = 7) (e : f_F_rentIf_33 a0 x1 x2 x3 h = some r) : Go l D ad aC (rmk (mr m_F_rentIf r.1)) (QM D ad aC (mr m_F_rentIf r.1) r.1 r.2) m_F_rentIf 33 [some (.ref a0), some (.int x1), some (.int x2), some (.int x3)] [] h 0 0 := by
  unfold f_F_rentIf_33 at e
  refine Go.run (pc' := 34) [.iconst 0] (ls' := [some (.ref a0), some (.int x1), some (.int x2), some (.int x3)]) (st' := [.int (0 : Int32)]) (by decide +kernel) rfl rfl ?_
  exact x_F_rentIf_34 hf hI k0 e
def f_F_rentIf (h : HP) (a0 : Nat) (x1 : Int32) (x2 : Int32) (x3 : Int32) : Option (Res × HP) :=
  (f_S_hasDealer h (fld (fld a0 0) 0) x1).bind fun v1 =>
  if v1 = 0 then
    f_F_rentIf_33 a0 x1 x2 x3 h
  else
    (f_S_hasMetre h (fld (fld a0 0) 0) x2 x3).bind fun v4 =>
    if v4 = 0 then
      f_F_rentIf_33 a0 x1 x2 x3 h
    else
      f_F_rentIf_34 a0 x1 x2 x3 (1 : Int32) h
set_option maxHeartbeats 1000000 in
theorem x_F_rentIf {l : Launch} {D : va_G} {ad : Nat → Nat} {aC : Nat → ClassId} (hf : l.flags = flags0) (hI : Inj ad) {h : HP} {a0 : Nat} {x1 : Int32} {x2 : Int32} {x3 : Int32} {r : Res × HP} (k0 : knd a0 = 7) (e : f_F_rentIf h a0 x1 x2 x3 = some r) : CT l D ad aC (mr m_F_rentIf r.1) [.ref a0, .int x1, .int x2, .int x3] h r.1 r.2 := by
  refine CT.ofGoR (by decide +kernel) rfl (Nat.le_of_ble_eq_true rfl) ?_
  unfold f_F_rentIf at e
  show Go l D ad aC _ _ m_F_rentIf 0 [some (.ref a0), some (.int x1), some (.int x2), some (.int x3)] [] h 0 0
  refine Go.run (pc' := 1) [.aload_n 0] (ls' := [some (.ref a0), some (.int x1), some (.int x2), some (.int x3)]) (st' := [.ref a0]) (by decide +kernel) rfl rfl ?_
  refine Go.getR fo_F_10 k0 (by decide +kernel) ?_
  refine Go.getR fo_F_89 (kf_7_0 k0) (by decide +kernel) ?_
  refine Go.run (pc' := 8) [.iload_n 1] (ls' := [some (.ref a0), some (.int x1), some (.int x2), some (.int x3)]) (st' := [.int x1, .ref (fld (fld a0 0) 0)]) (by decide +kernel) rfl rfl ?_
  obtain ⟨v1, e2, e⟩ := bd_inv e
  refine Go.callV (M2 := m_S_hasDealer) (a := (fld (fld a0 0) 0)) (as := [.int x1]) (rest := []) (v := some (.int v1)) (h1 := h) (x_S_hasDealer hf hI (kf_1_0 (kf_7_0 k0)) e2) wv_F_184 (kf_1_0 (kf_7_0 k0)) kc_6 (by decide +kernel) rfl rfl ⟨⟨Nat.le_of_ble_eq_true rfl, Nat.le_of_ble_eq_true rfl⟩, ⟨Nat.zero_le _, Nat.zero_le _⟩⟩ (Nat.le_of_ble_eq_true rfl) ?_
  show Go l D ad aC _ _ m_F_rentIf 11 [some (.ref a0), some (.int x1), some (.int x2), some (.int x3)] [.int v1] h 0 0
  refine Go.if_eq (off := 22) (tgt := 33) (by decide +kernel) (by decide) (fun c3 => ?_) (fun c3 => ?_)
  · replace e := ite_t c3 e
    exact x_F_rentIf_33 hf hI k0 e
  · replace e := ite_f c3 e
    refine Go.run (pc' := 15) [.aload_n 0] (ls' := [some (.ref a0), some (.int x1), some (.int x2), some (.int x3)]) (st' := [.ref a0]) (by decide +kernel) rfl rfl ?_
    refine Go.getR fo_F_10 k0 (by decide +kernel) ?_
    refine Go.getR fo_F_89 (kf_7_0 k0) (by decide +kernel) ?_
    refine Go.run (pc' := 23) [.iload_n 2, .iload_n 3] (ls' := [some (.ref a0), some (.int x1), some (.int x2), some (.int x3)]) (st' := [.int x3, .int x2, .ref (fld (fld a0 0) 0)]) (by decide +kernel) rfl rfl ?_
    obtain ⟨v4, e5, e⟩ := bd_inv e
    refine Go.callV (M2 := m_S_hasMetre) (a := (fld (fld a0 0) 0)) (as := [.int x2, .int x3]) (rest := []) (v := some (.int v4)) (h1 := h) (x_S_hasMetre hf hI (kf_1_0 (kf_7_0 k0)) e5) wv_F_164 (kf_1_0 (kf_7_0 k0)) kc_6 (by decide +kernel) rfl rfl ⟨⟨Nat.le_of_ble_eq_true rfl, Nat.le_of_ble_eq_true rfl⟩, ⟨Nat.zero_le _, Nat.zero_le _⟩⟩ (Nat.le_of_ble_eq_true rfl) ?_
    show Go l D ad aC _ _ m_F_rentIf 26 [some (.ref a0), some (.int x1), some (.int x2), some (.int x3)] [.int v4] h 0 0
    refine Go.if_eq (off := 7) (tgt := 33) (by decide +kernel) (by decide) (fun c6 => ?_) (fun c6 => ?_)
    · replace e := ite_t c6 e
      exact x_F_rentIf_33 hf hI k0 e
    · replace e := ite_f c6 e
      refine Go.run (pc' := 30) [.iconst 1] (ls' := [some (.ref a0), some (.int x1), some (.int x2), some (.int x3)]) (st' := [.int (1 : Int32)]) (by decide +kernel) rfl rfl ?_
      refine Go.goto (off := 4) (tgt := 34) (by decide +kernel) (by decide) ?_
      exact x_F_rentIf_34 hf hI k0 e
def f_F_cheapest_126 (k45_ : Nat → Int32 → Int32 → Int32 → Int32 → Int32 → HP → Option (Res × HP)) (k63_ : Nat → Int32 → Int32 → Int32 → Int32 → Int32 → Int32 → HP → Option (Res × HP)) (a0 : Nat) (x1 : Int32) (x2 : Int32) (x3 : Int32) (x4 : Int32) (x5 : Int32) (x6 : Int32) (h : HP) : Option (Res × HP) :=
  k63_ a0 x1 x2 x3 x4 x5 (x6 + (1 : Int32)) h
set_option maxHeartbeats 1000000 in
theorem x_F_cheapest_126 {l : Launch} {D : va_G} {ad : Nat → Nat} {aC : Nat → ClassId} (hf : l.flags = flags0) (hI : Inj ad) {k45_ : Nat → Int32 → Int32 → Int32 → Int32 → Int32 → HP → Option (Res × HP)} {k63_ : Nat → Int32 → Int32 → Int32 → Int32 → Int32 → Int32 → HP → Option (Res × HP)} (K45_ : ∀ {a0 : Nat} {x1 : Int32} {x2 : Int32} {x3 : Int32} {x4 : Int32} {x5 : Int32} {h : HP} {r : Res × HP}, knd a0 = 7 → k45_ a0 x1 x2 x3 x4 x5 h = some r → Go l D ad aC (rmk (mr m_F_cheapest r.1)) (QM D ad aC (mr m_F_cheapest r.1) r.1 r.2) m_F_cheapest 45 [some (.ref a0), some (.int x1), some (.int x2), some (.int x3), some (.int x4), some (.int x5), none, none] [] h 0 0) (K63_ : ∀ {a0 : Nat} {x1 : Int32} {x2 : Int32} {x3 : Int32} {x4 : Int32} {x5 : Int32} {x6 : Int32} {h : HP} {r : Res × HP}, knd a0 = 7 → k63_ a0 x1 x2 x3 x4 x5 x6 h = some r → Go l D ad aC (rmk (mr m_F_cheapest r.1)) (QM D ad aC (mr m_F_cheapest r.1) r.1 r.2) m_F_cheapest 63 [some (.ref a0), some (.int x1), some (.int x2), some (.int x3), some (.int x4), some (.int x5), some (.int x6), none] [] h 0 0) {a0 : Nat} {x1 : Int32} {x2 : Int32} {x3 : Int32} {x4 : Int32} {x5 : Int32} {x6 : Int32} {h : HP} {r : Res × HP} (k0 : knd a0 = 7) (e : f_F_cheapest_126 k45_ k63_ a0 x1 x2 x3 x4 x5 x6 h = some r) : Go l D ad aC (rmk (mr m_F_cheapest r.1)) (QM D ad aC (mr m_F_cheapest r.1) r.1 r.2) m_F_cheapest 126 [some (.ref a0), some (.int x1), some (.int x2), some (.int x3), some (.int x4), some (.int x5), some (.int x6), none] [] h 0 0 := by
  unfold f_F_cheapest_126 at e
  refine Go.run (pc' := 129) [.iinc 6 (1)] (ls' := [some (.ref a0), some (.int x1), some (.int x2), some (.int x3), some (.int x4), some (.int x5), some (.int (x6 + (1 : Int32))), none]) (st' := []) (by decide +kernel) rfl rfl ?_
  refine Go.goto (off := -66) (tgt := 63) (by decide +kernel) (by decide) ?_
  exact K63_ k0 e
def f_F_cheapest_113 (k45_ : Nat → Int32 → Int32 → Int32 → Int32 → Int32 → HP → Option (Res × HP)) (k63_ : Nat → Int32 → Int32 → Int32 → Int32 → Int32 → Int32 → HP → Option (Res × HP)) (a0 : Nat) (x1 : Int32) (x2 : Int32) (x5 : Int32) (x6 : Int32) (x7 : Int32) (h : HP) : Option (Res × HP) :=
  f_F_cheapest_126 k45_ k63_ a0 x1 x2 (((100 : Int32) * x5) + x6) x7 x5 x6 h
set_option maxHeartbeats 1000000 in
theorem x_F_cheapest_113 {l : Launch} {D : va_G} {ad : Nat → Nat} {aC : Nat → ClassId} (hf : l.flags = flags0) (hI : Inj ad) {k45_ : Nat → Int32 → Int32 → Int32 → Int32 → Int32 → HP → Option (Res × HP)} {k63_ : Nat → Int32 → Int32 → Int32 → Int32 → Int32 → Int32 → HP → Option (Res × HP)} (K45_ : ∀ {a0 : Nat} {x1 : Int32} {x2 : Int32} {x3 : Int32} {x4 : Int32} {x5 : Int32} {h : HP} {r : Res × HP}, knd a0 = 7 → k45_ a0 x1 x2 x3 x4 x5 h = some r → Go l D ad aC (rmk (mr m_F_cheapest r.1)) (QM D ad aC (mr m_F_cheapest r.1) r.1 r.2) m_F_cheapest 45 [some (.ref a0), some (.int x1), some (.int x2), some (.int x3), some (.int x4), some (.int x5), none, none] [] h 0 0) (K63_ : ∀ {a0 : Nat} {x1 : Int32} {x2 : Int32} {x3 : Int32} {x4 : Int32} {x5 : Int32} {x6 : Int32} {h : HP} {r : Res × HP}, knd a0 = 7 → k63_ a0 x1 x2 x3 x4 x5 x6 h = some r → Go l D ad aC (rmk (mr m_F_cheapest r.1)) (QM D ad aC (mr m_F_cheapest r.1) r.1 r.2) m_F_cheapest 63 [some (.ref a0), some (.int x1), some (.int x2), some (.int x3), some (.int x4), some (.int x5), some (.int x6), none] [] h 0 0) {a0 : Nat} {x1 : Int32} {x2 : Int32} {x5 : Int32} {x6 : Int32} {x7 : Int32} {h : HP} {r : Res × HP} (k0 : knd a0 = 7) (e : f_F_cheapest_113 k45_ k63_ a0 x1 x2 x5 x6 x7 h = some r) : Go l D ad aC (rmk (mr m_F_cheapest r.1)) (QM D ad aC (mr m_F_cheapest r.1) r.1 r.2) m_F_cheapest 113 [some (.ref a0), some (.int x1), some (.int x2), none, none, some (.int x5), some (.int x6), some (.int x7)] [] h 0 0 := by
  unfold f_F_cheapest_113 at e
  refine Go.run (pc' := 126) [.iload 7, .istore 4, .bipush (100), .iload 5, .imul, .iload 6, .iadd, .istore_n 3] (ls' := [some (.ref a0), some (.int x1), some (.int x2), some (.int (((100 : Int32) * x5) + x6)), some (.int x7), some (.int x5), some (.int x6), some (.int x7)]) (st' := []) (by decide +kernel) rfl rfl ?_
  refine Go.wk' (wks (wks (wks (wks (wks (wks (wks (wkn wk0)))))))) ?_
  exact x_F_cheapest_126 hf hI K45_ K63_ k0 e
def f_F_cheapest_63 (k45_ : Nat → Int32 → Int32 → Int32 → Int32 → Int32 → HP → Option (Res × HP)) : Nat → Nat → Int32 → Int32 → Int32 → Int32 → Int32 → Int32 → HP → Option (Res × HP)
  | 0, _, _, _, _, _, _, _, _ => none
  | n + 1, a0, x1, x2, x3, x4, x5, x6, h =>
    (f_S_lengthOf h (fld (fld a0 0) 0) x5).bind fun v1 =>
    if v1 ≤ x6 then
      k45_ a0 x1 x2 x3 x4 (x5 + (1 : Int32)) h
    else
      (f_A_rentMovedTo h (fld a0 1) x1 x5 x6).bind fun v4 =>
      if v4.1 = (-1 : Int32) then
        f_F_cheapest_126 k45_ (f_F_cheapest_63 k45_ n) a0 x1 x2 x3 x4 x5 x6 v4.2
      else
        if x4 = (-1 : Int32) then
          f_F_cheapest_113 k45_ (f_F_cheapest_63 k45_ n) a0 x1 x2 x5 x6 v4.1 v4.2
        else
          if x4 ≤ v4.1 then
            f_F_cheapest_126 k45_ (f_F_cheapest_63 k45_ n) a0 x1 x2 x3 x4 x5 x6 v4.2
          else
            f_F_cheapest_113 k45_ (f_F_cheapest_63 k45_ n) a0 x1 x2 x5 x6 v4.1 v4.2
set_option maxHeartbeats 1000000 in
theorem x_F_cheapest_63 {l : Launch} {D : va_G} {ad : Nat → Nat} {aC : Nat → ClassId} (hf : l.flags = flags0) (hI : Inj ad) {k45_ : Nat → Int32 → Int32 → Int32 → Int32 → Int32 → HP → Option (Res × HP)} (K45_ : ∀ {a0 : Nat} {x1 : Int32} {x2 : Int32} {x3 : Int32} {x4 : Int32} {x5 : Int32} {h : HP} {r : Res × HP}, knd a0 = 7 → k45_ a0 x1 x2 x3 x4 x5 h = some r → Go l D ad aC (rmk (mr m_F_cheapest r.1)) (QM D ad aC (mr m_F_cheapest r.1) r.1 r.2) m_F_cheapest 45 [some (.ref a0), some (.int x1), some (.int x2), some (.int x3), some (.int x4), some (.int x5), none, none] [] h 0 0) : ∀ (n : Nat) {a0 : Nat} {x1 : Int32} {x2 : Int32} {x3 : Int32} {x4 : Int32} {x5 : Int32} {x6 : Int32} {h : HP} {r : Res × HP}, knd a0 = 7 → f_F_cheapest_63 k45_ n a0 x1 x2 x3 x4 x5 x6 h = some r → Go l D ad aC (rmk (mr m_F_cheapest r.1)) (QM D ad aC (mr m_F_cheapest r.1) r.1 r.2) m_F_cheapest 63 [some (.ref a0), some (.int x1), some (.int x2), some (.int x3), some (.int x4), some (.int x5), some (.int x6), none] [] h 0 0 := by
  intro n
  induction n with
  | zero => intro a0 x1 x2 x3 x4 x5 x6 h r k0 e; exact no_none e
  | succ n ih =>
    intro a0 x1 x2 x3 x4 x5 x6 h r k0 e
    rw [f_F_cheapest_63] at e
    refine Go.run (pc' := 66) [.iload 6, .aload_n 0] (ls' := [some (.ref a0), some (.int x1), some (.int x2), some (.int x3), some (.int x4), some (.int x5), some (.int x6), none]) (st' := [.ref a0, .int x6]) (by decide +kernel) rfl rfl ?_
    refine Go.getR fo_F_10 k0 (by decide +kernel) ?_
    refine Go.getR fo_F_89 (kf_7_0 k0) (by decide +kernel) ?_
    refine Go.run (pc' := 74) [.iload 5] (ls' := [some (.ref a0), some (.int x1), some (.int x2), some (.int x3), some (.int x4), some (.int x5), some (.int x6), none]) (st' := [.int x5, .ref (fld (fld a0 0) 0), .int x6]) (by decide +kernel) rfl rfl ?_
    obtain ⟨v1, e2, e⟩ := bd_inv e
    refine Go.callV (M2 := m_S_lengthOf) (a := (fld (fld a0 0) 0)) (as := [.int x5]) (rest := [.int x6]) (v := some (.int v1)) (h1 := h) (x_S_lengthOf hf hI (kf_1_0 (kf_7_0 k0)) e2) wv_F_145 (kf_1_0 (kf_7_0 k0)) kc_6 (by decide +kernel) rfl rfl ⟨⟨Nat.le_of_ble_eq_true rfl, Nat.le_of_ble_eq_true rfl⟩, ⟨Nat.zero_le _, Nat.zero_le _⟩⟩ (Nat.le_of_ble_eq_true rfl) ?_
    show Go l D ad aC _ _ m_F_cheapest 77 [some (.ref a0), some (.int x1), some (.int x2), some (.int x3), some (.int x4), some (.int x5), some (.int x6), none] [.int v1, .int x6] h 0 0
    refine Go.ic_ge (off := 55) (tgt := 132) (by decide +kernel) (by decide) (fun c3 => ?_) (fun c3 => ?_)
    · replace e := ite_t c3 e
      refine Go.run (pc' := 135) [.iinc 5 (1)] (ls' := [some (.ref a0), some (.int x1), some (.int x2), some (.int x3), some (.int x4), some (.int (x5 + (1 : Int32))), some (.int x6), none]) (st' := []) (by decide +kernel) rfl rfl ?_
      refine Go.goto (off := -90) (tgt := 45) (by decide +kernel) (by decide) ?_
      refine Go.wk' (wks (wks (wks (wks (wks (wks (wkn (wks wk0)))))))) ?_
      exact K45_ k0 e
    · replace e := ite_f c3 e
      refine Go.run (pc' := 81) [.aload_n 0] (ls' := [some (.ref a0), some (.int x1), some (.int x2), some (.int x3), some (.int x4), some (.int x5), some (.int x6), none]) (st' := [.ref a0]) (by decide +kernel) rfl rfl ?_
      refine Go.getR fo_F_16 k0 (by decide +kernel) ?_
      refine Go.run (pc' := 89) [.iload_n 1, .iload 5, .iload 6] (ls' := [some (.ref a0), some (.int x1), some (.int x2), some (.int x3), some (.int x4), some (.int x5), some (.int x6), none]) (st' := [.int x6, .int x5, .int x1, .ref (fld a0 1)]) (by decide +kernel) rfl rfl ?_
      obtain ⟨v4, e5, e⟩ := bd_inv e
      refine Go.callV (M2 := m_A_rentMovedTo) (a := (fld a0 1)) (as := [.int x1, .int x5, .int x6]) (rest := []) (v := some (.int v4.1)) (h1 := v4.2) (x_A_rentMovedTo hf hI (kf_7_1 k0) e5) wv_F_289 (kf_7_1 k0) kc_1 (by decide +kernel) rfl rfl ⟨⟨Nat.le_of_ble_eq_true rfl, Nat.le_of_ble_eq_true rfl⟩, ⟨Nat.zero_le _, Nat.zero_le _⟩⟩ (Nat.le_of_ble_eq_true rfl) ?_
      show Go l D ad aC _ _ m_F_cheapest 92 [some (.ref a0), some (.int x1), some (.int x2), some (.int x3), some (.int x4), some (.int x5), some (.int x6), none] [.int v4.1] v4.2 0 0
      refine Go.run (pc' := 97) [.istore 7, .iload 7, .iconst (-1)] (ls' := [some (.ref a0), some (.int x1), some (.int x2), some (.int x3), some (.int x4), some (.int x5), some (.int x6), some (.int v4.1)]) (st' := [.int (-1 : Int32), .int v4.1]) (by decide +kernel) rfl rfl ?_
      refine Go.ic_eq (off := 29) (tgt := 126) (by decide +kernel) (by decide) (fun c6 => ?_) (fun c6 => ?_)
      · replace e := ite_t c6 e
        refine Go.wk' (wks (wks (wks (wks (wks (wks (wks (wkn wk0)))))))) ?_
        exact x_F_cheapest_126 hf hI K45_ (fun kk0 e => ih kk0 e) k0 e
      · replace e := ite_f c6 e
        refine Go.run (pc' := 103) [.iload 4, .iconst (-1)] (ls' := [some (.ref a0), some (.int x1), some (.int x2), some (.int x3), some (.int x4), some (.int x5), some (.int x6), some (.int v4.1)]) (st' := [.int (-1 : Int32), .int x4]) (by decide +kernel) rfl rfl ?_
        refine Go.ic_eq (off := 10) (tgt := 113) (by decide +kernel) (by decide) (fun c7 => ?_) (fun c7 => ?_)
        · replace e := ite_t c7 e
          refine Go.wk' (wks (wks (wks (wkn (wkn (wks (wks (wks wk0)))))))) ?_
          exact x_F_cheapest_113 hf hI K45_ (fun kk0 e => ih kk0 e) k0 e
        · replace e := ite_f c7 e
          refine Go.run (pc' := 110) [.iload 7, .iload 4] (ls' := [some (.ref a0), some (.int x1), some (.int x2), some (.int x3), some (.int x4), some (.int x5), some (.int x6), some (.int v4.1)]) (st' := [.int x4, .int v4.1]) (by decide +kernel) rfl rfl ?_
          refine Go.ic_ge (off := 16) (tgt := 126) (by decide +kernel) (by decide) (fun c8 => ?_) (fun c8 => ?_)
          · replace e := ite_t c8 e
            refine Go.wk' (wks (wks (wks (wks (wks (wks (wks (wkn wk0)))))))) ?_
            exact x_F_cheapest_126 hf hI K45_ (fun kk0 e => ih kk0 e) k0 e
          · replace e := ite_f c8 e
            refine Go.wk' (wks (wks (wks (wkn (wkn (wks (wks (wks wk0)))))))) ?_
            exact x_F_cheapest_113 hf hI K45_ (fun kk0 e => ih kk0 e) k0 e
def f_F_cheapest_45  : Nat → Nat → Int32 → Int32 → Int32 → Int32 → Int32 → HP → Option (Res × HP)
  | 0, _, _, _, _, _, _, _ => none
  | n + 1, a0, x1, x2, x3, x4, x5, h =>
    if (h (fld (fld a0 0) 0) 9) ≤ x5 then
      if x2 = 0 then
        some (.inl (some (.int x3)), h)
      else
        some (.inl (some (.int x4)), h)
    else
      f_F_cheapest_63 (f_F_cheapest_45 n) 4096 a0 x1 x2 x3 x4 x5 (0 : Int32) h
set_option maxHeartbeats 1000000 in
theorem x_F_cheapest_45 {l : Launch} {D : va_G} {ad : Nat → Nat} {aC : Nat → ClassId} (hf : l.flags = flags0) (hI : Inj ad) : ∀ (n : Nat) {a0 : Nat} {x1 : Int32} {x2 : Int32} {x3 : Int32} {x4 : Int32} {x5 : Int32} {h : HP} {r : Res × HP}, knd a0 = 7 → f_F_cheapest_45 n a0 x1 x2 x3 x4 x5 h = some r → Go l D ad aC (rmk (mr m_F_cheapest r.1)) (QM D ad aC (mr m_F_cheapest r.1) r.1 r.2) m_F_cheapest 45 [some (.ref a0), some (.int x1), some (.int x2), some (.int x3), some (.int x4), some (.int x5), none, none] [] h 0 0 := by
  intro n
  induction n with
  | zero => intro a0 x1 x2 x3 x4 x5 h r k0 e; exact no_none e
  | succ n ih =>
    intro a0 x1 x2 x3 x4 x5 h r k0 e
    rw [f_F_cheapest_45] at e
    refine Go.run (pc' := 48) [.iload 5, .aload_n 0] (ls' := [some (.ref a0), some (.int x1), some (.int x2), some (.int x3), some (.int x4), some (.int x5), none, none]) (st' := [.ref a0, .int x5]) (by decide +kernel) rfl rfl ?_
    refine Go.getR fo_F_10 k0 (by decide +kernel) ?_
    refine Go.getR fo_F_89 (kf_7_0 k0) (by decide +kernel) ?_
    refine Go.getI fo_F_93 (kf_1_0 (kf_7_0 k0)) (by decide +kernel) ?_
    refine Go.ic_ge (off := 81) (tgt := 138) (by decide +kernel) (by decide) (fun c1 => ?_) (fun c1 => ?_)
    · replace e := ite_t c1 e
      refine Go.run (pc' := 139) [.iload_n 2] (ls' := [some (.ref a0), some (.int x1), some (.int x2), some (.int x3), some (.int x4), some (.int x5), none, none]) (st' := [.int x2]) (by decide +kernel) rfl rfl ?_
      refine Go.if_ne (off := 7) (tgt := 146) (by decide +kernel) (by decide) (fun c2 => ?_) (fun c2 => ?_)
      · replace e := ite_f c2 e
        refine Go.run (pc' := 148) [.iload 4] (ls' := [some (.ref a0), some (.int x1), some (.int x2), some (.int x3), some (.int x4), some (.int x5), none, none]) (st' := [.int x4]) (by decide +kernel) rfl rfl ?_
        obtain rfl := Option.some.inj e
        exact Go.iret (M := m_F_cheapest) rfl (by decide) (by decide) (by decide +kernel)
      · replace e := ite_t c2 e
        refine Go.run (pc' := 143) [.iload_n 3] (ls' := [some (.ref a0), some (.int x1), some (.int x2), some (.int x3), some (.int x4), some (.int x5), none, none]) (st' := [.int x3]) (by decide +kernel) rfl rfl ?_
        refine Go.goto (off := 5) (tgt := 148) (by decide +kernel) (by decide) ?_
        obtain rfl := Option.some.inj e
        exact Go.iret (M := m_F_cheapest) rfl (by decide) (by decide) (by decide +kernel)
    · replace e := ite_f c1 e
      refine Go.run (pc' := 63) [.iconst 0, .istore 6] (ls' := [some (.ref a0), some (.int x1), some (.int x2), some (.int x3), some (.int x4), some (.int x5), some (.int (0 : Int32)), none]) (st' := []) (by decide +kernel) rfl rfl ?_
      exact x_F_cheapest_63 hf hI (fun kk0 e => ih kk0 e) 4096 k0 e
def f_F_cheapest (h : HP) (a0 : Nat) (x1 : Int32) (x2 : Int32) : Option (Res × HP) :=
  (f_S_hasDealer h (fld (fld a0 0) 0) x1).bind fun v1 =>
  if v1 = 0 then some (.inr "java/lang/IndexOutOfBoundsException", h) else
  (f_F_inRange h x2 (0 : Int32) (1 : Int32)).bind fun v4 =>
  if v4 = 0 then some (.inr "java/lang/IllegalArgumentException", h) else
  (f_A_become h (fld a0 1) (fld (fld a0 0) 0)).bind fun v7 =>
  f_F_cheapest_45 4096 a0 x1 x2 (-1 : Int32) (-1 : Int32) (0 : Int32) v7
set_option maxHeartbeats 1000000 in
theorem x_F_cheapest {l : Launch} {D : va_G} {ad : Nat → Nat} {aC : Nat → ClassId} (hf : l.flags = flags0) (hI : Inj ad) {h : HP} {a0 : Nat} {x1 : Int32} {x2 : Int32} {r : Res × HP} (k0 : knd a0 = 7) (e : f_F_cheapest h a0 x1 x2 = some r) : CT l D ad aC (mr m_F_cheapest r.1) [.ref a0, .int x1, .int x2] h r.1 r.2 := by
  refine CT.ofGoR (by decide +kernel) rfl (Nat.le_of_ble_eq_true rfl) ?_
  unfold f_F_cheapest at e
  show Go l D ad aC _ _ m_F_cheapest 0 [some (.ref a0), some (.int x1), some (.int x2), none, none, none, none, none] [] h 0 0
  refine Go.run (pc' := 1) [.aload_n 0] (ls' := [some (.ref a0), some (.int x1), some (.int x2), none, none, none, none, none]) (st' := [.ref a0]) (by decide +kernel) rfl rfl ?_
  refine Go.getR fo_F_10 k0 (by decide +kernel) ?_
  refine Go.getR fo_F_89 (kf_7_0 k0) (by decide +kernel) ?_
  refine Go.run (pc' := 8) [.iload_n 1] (ls' := [some (.ref a0), some (.int x1), some (.int x2), none, none, none, none, none]) (st' := [.int x1, .ref (fld (fld a0 0) 0)]) (by decide +kernel) rfl rfl ?_
  obtain ⟨v1, e2, e⟩ := bd_inv e
  refine Go.callV (M2 := m_S_hasDealer) (a := (fld (fld a0 0) 0)) (as := [.int x1]) (rest := []) (v := some (.int v1)) (h1 := h) (x_S_hasDealer hf hI (kf_1_0 (kf_7_0 k0)) e2) wv_F_184 (kf_1_0 (kf_7_0 k0)) kc_6 (by decide +kernel) rfl rfl ⟨⟨Nat.le_of_ble_eq_true rfl, Nat.le_of_ble_eq_true rfl⟩, ⟨Nat.zero_le _, Nat.zero_le _⟩⟩ (Nat.le_of_ble_eq_true rfl) ?_
  show Go l D ad aC _ _ m_F_cheapest 11 [some (.ref a0), some (.int x1), some (.int x2), none, none, none, none, none] [.int v1] h 0 0
  rcases Decidable.em (v1 = 0) with c3 | c3
  · replace e := ite_t c3 e
    obtain rfl := Option.some.inj e
    exact Go.mr (res := .inr "java/lang/IndexOutOfBoundsException") (Go.thrown (M := mr m_F_cheapest (.inr "java/lang/IndexOutOfBoundsException")) (M2 := mr m_F_needExists (.inr "java/lang/IndexOutOfBoundsException")) (as := [.int v1]) (rest := []) (h1 := h) (by have q := x_F_needExists (l := l) (D := D) (ad := ad) (aC := aC) hf (h := h) (b := v1); rw [if_pos c3] at q; exact q) (WS.mr ws_F_142) (by decide +kernel) rfl rfl ⟨⟨Nat.le_of_ble_eq_true rfl, Nat.le_of_ble_eq_true rfl⟩, ⟨Nat.le_of_ble_eq_true rfl, Nat.le_of_ble_eq_true rfl⟩⟩ (Nat.le_of_ble_eq_true rfl) rfl (by decide) (by decide) (by decide))
  replace e := ite_f c3 e
  refine Go.callS (M2 := mr m_F_needExists (.inl none)) (as := [.int v1]) (rest := []) (v := none) (h1 := h) (by have q := x_F_needExists (l := l) (D := D) (ad := ad) (aC := aC) hf (h := h) (b := v1); rw [if_neg c3] at q; exact q) (WS.mr ws_F_142) (by decide +kernel) rfl rfl ⟨⟨Nat.le_of_ble_eq_true rfl, Nat.le_of_ble_eq_true rfl⟩, ⟨Nat.zero_le _, Nat.zero_le _⟩⟩ (Nat.le_of_ble_eq_true rfl) ?_
  show Go l D ad aC _ _ m_F_cheapest 14 [some (.ref a0), some (.int x1), some (.int x2), none, none, none, none, none] [] h 0 0
  refine Go.run (pc' := 17) [.iload_n 2, .iconst 0, .iconst 1] (ls' := [some (.ref a0), some (.int x1), some (.int x2), none, none, none, none, none]) (st' := [.int (1 : Int32), .int (0 : Int32), .int x2]) (by decide +kernel) rfl rfl ?_
  obtain ⟨v4, e5, e⟩ := bd_inv e
  refine Go.callS (M2 := m_F_inRange) (as := [.int x2, .int (0 : Int32), .int (1 : Int32)]) (rest := []) (v := some (.int v4)) (h1 := h) (x_F_inRange hf hI  e5) ws_F_44 (by decide +kernel) rfl rfl ⟨⟨Nat.le_of_ble_eq_true rfl, Nat.le_of_ble_eq_true rfl⟩, ⟨Nat.zero_le _, Nat.zero_le _⟩⟩ (Nat.le_of_ble_eq_true rfl) ?_
  show Go l D ad aC _ _ m_F_cheapest 20 [some (.ref a0), some (.int x1), some (.int x2), none, none, none, none, none] [.int v4] h 0 0
  rcases Decidable.em (v4 = 0) with c6 | c6
  · replace e := ite_t c6 e
    obtain rfl := Option.some.inj e
    exact Go.mr (res := .inr "java/lang/IllegalArgumentException") (Go.thrown (M := mr m_F_cheapest (.inr "java/lang/IllegalArgumentException")) (M2 := mr m_F_needArgument (.inr "java/lang/IllegalArgumentException")) (as := [.int v4]) (rest := []) (h1 := h) (by have q := x_F_needArgument (l := l) (D := D) (ad := ad) (aC := aC) hf (h := h) (b := v4); rw [if_pos c6] at q; exact q) (WS.mr ws_F_48) (by decide +kernel) rfl rfl ⟨⟨Nat.le_of_ble_eq_true rfl, Nat.le_of_ble_eq_true rfl⟩, ⟨Nat.le_of_ble_eq_true rfl, Nat.le_of_ble_eq_true rfl⟩⟩ (Nat.le_of_ble_eq_true rfl) rfl (by decide) (by decide) (by decide))
  replace e := ite_f c6 e
  refine Go.callS (M2 := mr m_F_needArgument (.inl none)) (as := [.int v4]) (rest := []) (v := none) (h1 := h) (by have q := x_F_needArgument (l := l) (D := D) (ad := ad) (aC := aC) hf (h := h) (b := v4); rw [if_neg c6] at q; exact q) (WS.mr ws_F_48) (by decide +kernel) rfl rfl ⟨⟨Nat.le_of_ble_eq_true rfl, Nat.le_of_ble_eq_true rfl⟩, ⟨Nat.zero_le _, Nat.zero_le _⟩⟩ (Nat.le_of_ble_eq_true rfl) ?_
  show Go l D ad aC _ _ m_F_cheapest 23 [some (.ref a0), some (.int x1), some (.int x2), none, none, none, none, none] [] h 0 0
  refine Go.run (pc' := 24) [.aload_n 0] (ls' := [some (.ref a0), some (.int x1), some (.int x2), none, none, none, none, none]) (st' := [.ref a0]) (by decide +kernel) rfl rfl ?_
  refine Go.getR fo_F_16 k0 (by decide +kernel) ?_
  refine Go.run (pc' := 28) [.aload_n 0] (ls' := [some (.ref a0), some (.int x1), some (.int x2), none, none, none, none, none]) (st' := [.ref a0, .ref (fld a0 1)]) (by decide +kernel) rfl rfl ?_
  refine Go.getR fo_F_10 k0 (by decide +kernel) ?_
  refine Go.getR fo_F_89 (kf_7_0 k0) (by decide +kernel) ?_
  obtain ⟨v7, e8, e⟩ := bd_inv e
  refine Go.callV (M2 := m_A_become) (a := (fld a0 1)) (as := [.ref (fld (fld a0 0) 0)]) (rest := []) (v := none) (h1 := v7) (x_A_become hf hI (kf_7_1 k0) (kf_1_0 (kf_7_0 k0)) e8) wv_F_286 (kf_7_1 k0) kc_1 (by decide +kernel) rfl rfl ⟨⟨Nat.le_of_ble_eq_true rfl, Nat.le_of_ble_eq_true rfl⟩, ⟨Nat.zero_le _, Nat.zero_le _⟩⟩ (Nat.le_of_ble_eq_true rfl) ?_
  show Go l D ad aC _ _ m_F_cheapest 37 [some (.ref a0), some (.int x1), some (.int x2), none, none, none, none, none] [] v7 0 0
  refine Go.run (pc' := 45) [.iconst (-1), .istore_n 3, .iconst (-1), .istore 4, .iconst 0, .istore 5] (ls' := [some (.ref a0), some (.int x1), some (.int x2), some (.int (-1 : Int32)), some (.int (-1 : Int32)), some (.int (0 : Int32)), none, none]) (st' := []) (by decide +kernel) rfl rfl ?_
  exact x_F_cheapest_45 hf hI 4096 k0 e
def f_F_rentsBehindSwap (h : HP) (a0 : Nat) (x1 : Int32) (x2 : Int32) : Option (Int32 × HP) :=
  (f_A_swapReason h (fld a0 0) x1 x2).bind fun v1 =>
  if v1 = 0 then
    (f_A_become h (fld a0 1) (fld (fld a0 0) 0)).bind fun v4 =>
    (f_A_exchange v4 (fld a0 1) x1 x2).bind fun v6 =>
    (f_A_rents v6.2 (fld a0 1)).bind fun v8 =>
    some (v8, v6.2)
  else
    some ((-1 : Int32), h)
set_option maxHeartbeats 1000000 in
theorem x_F_rentsBehindSwap {l : Launch} {D : va_G} {ad : Nat → Nat} {aC : Nat → ClassId} (hf : l.flags = flags0) (hI : Inj ad) {h : HP} {a0 : Nat} {x1 : Int32} {x2 : Int32} {r : Int32 × HP} (k0 : knd a0 = 7) (e : f_F_rentsBehindSwap h a0 x1 x2 = some r) : CT l D ad aC m_F_rentsBehindSwap [.ref a0, .int x1, .int x2] h (.inl (some (.int r.1))) r.2 := by
  refine CT.ofGo (by decide +kernel) rfl (Nat.le_of_ble_eq_true rfl) ?_
  unfold f_F_rentsBehindSwap at e
  show Go l D ad aC (rmk m_F_rentsBehindSwap) _ m_F_rentsBehindSwap 0 [some (.ref a0), some (.int x1), some (.int x2)] [] h 0 0
  refine Go.run (pc' := 1) [.aload_n 0] (ls' := [some (.ref a0), some (.int x1), some (.int x2)]) (st' := [.ref a0]) (by decide +kernel) rfl rfl ?_
  refine Go.getR fo_F_10 k0 (by decide +kernel) ?_
  refine Go.run (pc' := 6) [.iload_n 1, .iload_n 2] (ls' := [some (.ref a0), some (.int x1), some (.int x2)]) (st' := [.int x2, .int x1, .ref (fld a0 0)]) (by decide +kernel) rfl rfl ?_
  obtain ⟨v1, e2, e⟩ := bd_inv e
  refine Go.callV (M2 := m_A_swapReason) (a := (fld a0 0)) (as := [.int x1, .int x2]) (rest := []) (v := some (.int v1)) (h1 := h) (x_A_swapReason hf hI (kf_7_0 k0) e2) wv_F_295 (kf_7_0 k0) kc_1 (by decide +kernel) rfl rfl ⟨⟨Nat.le_of_ble_eq_true rfl, Nat.le_of_ble_eq_true rfl⟩, ⟨Nat.le_of_ble_eq_true rfl, Nat.le_of_ble_eq_true rfl⟩⟩ (Nat.le_of_ble_eq_true rfl) ?_
  show Go l D ad aC (rmk m_F_rentsBehindSwap) _ m_F_rentsBehindSwap 9 [some (.ref a0), some (.int x1), some (.int x2)] [.int v1] h 0 0
  refine Go.if_eq (off := 5) (tgt := 14) (by decide +kernel) (by decide) (fun c3 => ?_) (fun c3 => ?_)
  · replace e := ite_t c3 e
    refine Go.run (pc' := 15) [.aload_n 0] (ls' := [some (.ref a0), some (.int x1), some (.int x2)]) (st' := [.ref a0]) (by decide +kernel) rfl rfl ?_
    refine Go.getR fo_F_16 k0 (by decide +kernel) ?_
    refine Go.run (pc' := 19) [.aload_n 0] (ls' := [some (.ref a0), some (.int x1), some (.int x2)]) (st' := [.ref a0, .ref (fld a0 1)]) (by decide +kernel) rfl rfl ?_
    refine Go.getR fo_F_10 k0 (by decide +kernel) ?_
    refine Go.getR fo_F_89 (kf_7_0 k0) (by decide +kernel) ?_
    obtain ⟨v4, e5, e⟩ := bd_inv e
    refine Go.callV (M2 := m_A_become) (a := (fld a0 1)) (as := [.ref (fld (fld a0 0) 0)]) (rest := []) (v := none) (h1 := v4) (x_A_become hf hI (kf_7_1 k0) (kf_1_0 (kf_7_0 k0)) e5) wv_F_286 (kf_7_1 k0) kc_1 (by decide +kernel) rfl rfl ⟨⟨Nat.le_of_ble_eq_true rfl, Nat.le_of_ble_eq_true rfl⟩, ⟨Nat.le_of_ble_eq_true rfl, Nat.le_of_ble_eq_true rfl⟩⟩ (Nat.le_of_ble_eq_true rfl) ?_
    show Go l D ad aC (rmk m_F_rentsBehindSwap) _ m_F_rentsBehindSwap 28 [some (.ref a0), some (.int x1), some (.int x2)] [] v4 0 0
    refine Go.run (pc' := 29) [.aload_n 0] (ls' := [some (.ref a0), some (.int x1), some (.int x2)]) (st' := [.ref a0]) (by decide +kernel) rfl rfl ?_
    refine Go.getR fo_F_16 k0 (by decide +kernel) ?_
    refine Go.run (pc' := 34) [.iload_n 1, .iload_n 2] (ls' := [some (.ref a0), some (.int x1), some (.int x2)]) (st' := [.int x2, .int x1, .ref (fld a0 1)]) (by decide +kernel) rfl rfl ?_
    obtain ⟨v6, e7, e⟩ := bd_inv e
    refine Go.callV (M2 := m_A_exchange) (a := (fld a0 1)) (as := [.int x1, .int x2]) (rest := []) (v := some (.int v6.1)) (h1 := v6.2) (x_A_exchange hf hI (kf_7_1 k0) e7) wv_F_267 (kf_7_1 k0) kc_1 (by decide +kernel) rfl rfl ⟨⟨Nat.le_of_ble_eq_true rfl, Nat.le_of_ble_eq_true rfl⟩, ⟨Nat.le_of_ble_eq_true rfl, Nat.le_of_ble_eq_true rfl⟩⟩ (Nat.le_of_ble_eq_true rfl) ?_
    show Go l D ad aC (rmk m_F_rentsBehindSwap) _ m_F_rentsBehindSwap 37 [some (.ref a0), some (.int x1), some (.int x2)] [.int v6.1] v6.2 0 0
    refine Go.run (pc' := 39) [.pop, .aload_n 0] (ls' := [some (.ref a0), some (.int x1), some (.int x2)]) (st' := [.ref a0]) (by decide +kernel) rfl rfl ?_
    refine Go.getR fo_F_16 k0 (by decide +kernel) ?_
    obtain ⟨v8, e9, e⟩ := bd_inv e
    refine Go.callV (M2 := m_A_rents) (a := (fld a0 1)) (as := []) (rest := []) (v := some (.int v8)) (h1 := v6.2) (x_A_rents hf hI (kf_7_1 k0) e9) wv_F_120 (kf_7_1 k0) kc_1 (by decide +kernel) rfl rfl ⟨⟨Nat.le_of_ble_eq_true rfl, Nat.le_of_ble_eq_true rfl⟩, ⟨Nat.le_of_ble_eq_true rfl, Nat.le_of_ble_eq_true rfl⟩⟩ (Nat.le_of_ble_eq_true rfl) ?_
    show Go l D ad aC (rmk m_F_rentsBehindSwap) _ m_F_rentsBehindSwap 45 [some (.ref a0), some (.int x1), some (.int x2)] [.int v8] v6.2 0 0
    obtain rfl := Option.some.inj e
    exact Go.iret rfl (by decide) (by decide) (by decide +kernel)
  · replace e := ite_f c3 e
    refine Go.run (pc' := 13) [.iconst (-1)] (ls' := [some (.ref a0), some (.int x1), some (.int x2)]) (st' := [.int (-1 : Int32)]) (by decide +kernel) rfl rfl ?_
    obtain rfl := Option.some.inj e
    exact Go.iret rfl (by decide) (by decide) (by decide +kernel)
def f_F_bestSwap_107  (x2 : Int32) (h : HP) : Option (Res × HP) :=
  some (.inl (some (.int x2)), h)
set_option maxHeartbeats 1000000 in
theorem x_F_bestSwap_107 {l : Launch} {D : va_G} {ad : Nat → Nat} {aC : Nat → ClassId} (hf : l.flags = flags0) (hI : Inj ad) {x2 : Int32} {h : HP} {r : Res × HP}  (e : f_F_bestSwap_107 x2 h = some r) : Go l D ad aC (rmk (mr m_F_bestSwap r.1)) (QM D ad aC (mr m_F_bestSwap r.1) r.1 r.2) m_F_bestSwap 107 [none, none, some (.int x2), none, none, none, none] [] h 0 0 := by
  unfold f_F_bestSwap_107 at e
  refine Go.run (pc' := 108) [.iload_n 2] (ls' := [none, none, some (.int x2), none, none, none, none]) (st' := [.int x2]) (by decide +kernel) rfl rfl ?_
  refine Go.goto (off := 4) (tgt := 112) (by decide +kernel) (by decide) ?_
  obtain rfl := Option.some.inj e
  exact Go.iret (M := m_F_bestSwap) rfl (by decide) (by decide) (by decide +kernel)
def f_F_bestSwap_86 (k22_ : Nat → Int32 → Int32 → Int32 → Int32 → HP → Option (Res × HP)) (k43_ : Nat → Int32 → Int32 → Int32 → Int32 → Int32 → HP → Option (Res × HP)) (a0 : Nat) (x1 : Int32) (x2 : Int32) (x3 : Int32) (x4 : Int32) (x5 : Int32) (h : HP) : Option (Res × HP) :=
  k43_ a0 x1 x2 x3 x4 (x5 + (1 : Int32)) h
set_option maxHeartbeats 1000000 in
theorem x_F_bestSwap_86 {l : Launch} {D : va_G} {ad : Nat → Nat} {aC : Nat → ClassId} (hf : l.flags = flags0) (hI : Inj ad) {k22_ : Nat → Int32 → Int32 → Int32 → Int32 → HP → Option (Res × HP)} {k43_ : Nat → Int32 → Int32 → Int32 → Int32 → Int32 → HP → Option (Res × HP)} (K22_ : ∀ {a0 : Nat} {x1 : Int32} {x2 : Int32} {x3 : Int32} {x4 : Int32} {h : HP} {r : Res × HP}, knd a0 = 7 → k22_ a0 x1 x2 x3 x4 h = some r → Go l D ad aC (rmk (mr m_F_bestSwap r.1)) (QM D ad aC (mr m_F_bestSwap r.1) r.1 r.2) m_F_bestSwap 22 [some (.ref a0), some (.int x1), some (.int x2), some (.int x3), some (.int x4), none, none] [] h 0 0) (K43_ : ∀ {a0 : Nat} {x1 : Int32} {x2 : Int32} {x3 : Int32} {x4 : Int32} {x5 : Int32} {h : HP} {r : Res × HP}, knd a0 = 7 → k43_ a0 x1 x2 x3 x4 x5 h = some r → Go l D ad aC (rmk (mr m_F_bestSwap r.1)) (QM D ad aC (mr m_F_bestSwap r.1) r.1 r.2) m_F_bestSwap 43 [some (.ref a0), some (.int x1), some (.int x2), some (.int x3), some (.int x4), some (.int x5), none] [] h 0 0) {a0 : Nat} {x1 : Int32} {x2 : Int32} {x3 : Int32} {x4 : Int32} {x5 : Int32} {h : HP} {r : Res × HP} (k0 : knd a0 = 7) (e : f_F_bestSwap_86 k22_ k43_ a0 x1 x2 x3 x4 x5 h = some r) : Go l D ad aC (rmk (mr m_F_bestSwap r.1)) (QM D ad aC (mr m_F_bestSwap r.1) r.1 r.2) m_F_bestSwap 86 [some (.ref a0), some (.int x1), some (.int x2), some (.int x3), some (.int x4), some (.int x5), none] [] h 0 0 := by
  unfold f_F_bestSwap_86 at e
  refine Go.run (pc' := 89) [.iinc 5 (1)] (ls' := [some (.ref a0), some (.int x1), some (.int x2), some (.int x3), some (.int x4), some (.int (x5 + (1 : Int32))), none]) (st' := []) (by decide +kernel) rfl rfl ?_
  refine Go.goto (off := -46) (tgt := 43) (by decide +kernel) (by decide) ?_
  exact K43_ k0 e
def f_F_bestSwap_43 (k22_ : Nat → Int32 → Int32 → Int32 → Int32 → HP → Option (Res × HP)) : Nat → Nat → Int32 → Int32 → Int32 → Int32 → Int32 → HP → Option (Res × HP)
  | 0, _, _, _, _, _, _, _ => none
  | n + 1, a0, x1, x2, x3, x4, x5, h =>
    if (h (fld (fld a0 0) 0) 10) ≤ x5 then
      k22_ a0 x1 x2 x3 (x4 + (1 : Int32)) h
    else
      (f_F_rentsBehindSwap h a0 x4 x5).bind fun v2 =>
      if v2.1 ≤ x3 then
        f_F_bestSwap_86 k22_ (f_F_bestSwap_43 k22_ n) a0 x1 x2 x3 x4 x5 v2.2
      else
        f_F_bestSwap_86 k22_ (f_F_bestSwap_43 k22_ n) a0 x1 (((10 : Int32) * x4) + x5) v2.1 x4 x5 v2.2
set_option maxHeartbeats 1000000 in
theorem x_F_bestSwap_43 {l : Launch} {D : va_G} {ad : Nat → Nat} {aC : Nat → ClassId} (hf : l.flags = flags0) (hI : Inj ad) {k22_ : Nat → Int32 → Int32 → Int32 → Int32 → HP → Option (Res × HP)} (K22_ : ∀ {a0 : Nat} {x1 : Int32} {x2 : Int32} {x3 : Int32} {x4 : Int32} {h : HP} {r : Res × HP}, knd a0 = 7 → k22_ a0 x1 x2 x3 x4 h = some r → Go l D ad aC (rmk (mr m_F_bestSwap r.1)) (QM D ad aC (mr m_F_bestSwap r.1) r.1 r.2) m_F_bestSwap 22 [some (.ref a0), some (.int x1), some (.int x2), some (.int x3), some (.int x4), none, none] [] h 0 0) : ∀ (n : Nat) {a0 : Nat} {x1 : Int32} {x2 : Int32} {x3 : Int32} {x4 : Int32} {x5 : Int32} {h : HP} {r : Res × HP}, knd a0 = 7 → f_F_bestSwap_43 k22_ n a0 x1 x2 x3 x4 x5 h = some r → Go l D ad aC (rmk (mr m_F_bestSwap r.1)) (QM D ad aC (mr m_F_bestSwap r.1) r.1 r.2) m_F_bestSwap 43 [some (.ref a0), some (.int x1), some (.int x2), some (.int x3), some (.int x4), some (.int x5), none] [] h 0 0 := by
  intro n
  induction n with
  | zero => intro a0 x1 x2 x3 x4 x5 h r k0 e; exact no_none e
  | succ n ih =>
    intro a0 x1 x2 x3 x4 x5 h r k0 e
    rw [f_F_bestSwap_43] at e
    refine Go.run (pc' := 46) [.iload 5, .aload_n 0] (ls' := [some (.ref a0), some (.int x1), some (.int x2), some (.int x3), some (.int x4), some (.int x5), none]) (st' := [.ref a0, .int x5]) (by decide +kernel) rfl rfl ?_
    refine Go.getR fo_F_10 k0 (by decide +kernel) ?_
    refine Go.getR fo_F_89 (kf_7_0 k0) (by decide +kernel) ?_
    refine Go.getI fo_F_99 (kf_1_0 (kf_7_0 k0)) (by decide +kernel) ?_
    refine Go.ic_ge (off := 37) (tgt := 92) (by decide +kernel) (by decide) (fun c1 => ?_) (fun c1 => ?_)
    · replace e := ite_t c1 e
      refine Go.run (pc' := 95) [.iinc 4 (1)] (ls' := [some (.ref a0), some (.int x1), some (.int x2), some (.int x3), some (.int (x4 + (1 : Int32))), some (.int x5), none]) (st' := []) (by decide +kernel) rfl rfl ?_
      refine Go.goto (off := -73) (tgt := 22) (by decide +kernel) (by decide) ?_
      refine Go.wk' (wks (wks (wks (wks (wks (wkn (wks wk0))))))) ?_
      exact K22_ k0 e
    · replace e := ite_f c1 e
      refine Go.run (pc' := 63) [.aload_n 0, .iload 4, .iload 5] (ls' := [some (.ref a0), some (.int x1), some (.int x2), some (.int x3), some (.int x4), some (.int x5), none]) (st' := [.int x5, .int x4, .ref a0]) (by decide +kernel) rfl rfl ?_
      obtain ⟨v2, e3, e⟩ := bd_inv e
      refine Go.callV (M2 := m_F_rentsBehindSwap) (a := a0) (as := [.int x4, .int x5]) (rest := []) (v := some (.int v2.1)) (h1 := v2.2) (x_F_rentsBehindSwap hf hI k0 e3) wv_F_292 k0 kc_7 (by decide +kernel) rfl rfl ⟨⟨Nat.le_of_ble_eq_true rfl, Nat.le_of_ble_eq_true rfl⟩, ⟨Nat.zero_le _, Nat.zero_le _⟩⟩ (Nat.le_of_ble_eq_true rfl) ?_
      show Go l D ad aC _ _ m_F_bestSwap 66 [some (.ref a0), some (.int x1), some (.int x2), some (.int x3), some (.int x4), some (.int x5), none] [.int v2.1] v2.2 0 0
      refine Go.run (pc' := 71) [.istore 6, .iload 6, .iload_n 3] (ls' := [some (.ref a0), some (.int x1), some (.int x2), some (.int x3), some (.int x4), some (.int x5), some (.int v2.1)]) (st' := [.int x3, .int v2.1]) (by decide +kernel) rfl rfl ?_
      refine Go.ic_le (off := 15) (tgt := 86) (by decide +kernel) (by decide) (fun c4 => ?_) (fun c4 => ?_)
      · replace e := ite_t c4 e
        refine Go.wk' (wks (wks (wks (wks (wks (wks (wkn wk0))))))) ?_
        exact x_F_bestSwap_86 hf hI K22_ (fun kk0 e => ih kk0 e) k0 e
      · replace e := ite_f c4 e
        refine Go.run (pc' := 86) [.iload 6, .istore_n 3, .bipush (10), .iload 4, .imul, .iload 5, .iadd, .istore_n 2] (ls' := [some (.ref a0), some (.int x1), some (.int (((10 : Int32) * x4) + x5)), some (.int v2.1), some (.int x4), some (.int x5), some (.int v2.1)]) (st' := []) (by decide +kernel) rfl rfl ?_
        refine Go.wk' (wks (wks (wks (wks (wks (wks (wkn wk0))))))) ?_
        exact x_F_bestSwap_86 hf hI K22_ (fun kk0 e => ih kk0 e) k0 e
def f_F_bestSwap_22  : Nat → Nat → Int32 → Int32 → Int32 → Int32 → HP → Option (Res × HP)
  | 0, _, _, _, _, _, _ => none
  | n + 1, a0, x1, x2, x3, x4, h =>
    if (h (fld (fld a0 0) 0) 10) ≤ x4 then
      if x1 = 0 then
        f_F_bestSwap_107 x2 h
      else
        if x2 = (-1 : Int32) then
          f_F_bestSwap_107 x2 h
        else
          some (.inl (some (.int x3)), h)
    else
      f_F_bestSwap_43 (f_F_bestSwap_22 n) 4096 a0 x1 x2 x3 x4 (x4 + (1 : Int32)) h
set_option maxHeartbeats 1000000 in
theorem x_F_bestSwap_22 {l : Launch} {D : va_G} {ad : Nat → Nat} {aC : Nat → ClassId} (hf : l.flags = flags0) (hI : Inj ad) : ∀ (n : Nat) {a0 : Nat} {x1 : Int32} {x2 : Int32} {x3 : Int32} {x4 : Int32} {h : HP} {r : Res × HP}, knd a0 = 7 → f_F_bestSwap_22 n a0 x1 x2 x3 x4 h = some r → Go l D ad aC (rmk (mr m_F_bestSwap r.1)) (QM D ad aC (mr m_F_bestSwap r.1) r.1 r.2) m_F_bestSwap 22 [some (.ref a0), some (.int x1), some (.int x2), some (.int x3), some (.int x4), none, none] [] h 0 0 := by
  intro n
  induction n with
  | zero => intro a0 x1 x2 x3 x4 h r k0 e; exact no_none e
  | succ n ih =>
    intro a0 x1 x2 x3 x4 h r k0 e
    rw [f_F_bestSwap_22] at e
    refine Go.run (pc' := 25) [.iload 4, .aload_n 0] (ls' := [some (.ref a0), some (.int x1), some (.int x2), some (.int x3), some (.int x4), none, none]) (st' := [.ref a0, .int x4]) (by decide +kernel) rfl rfl ?_
    refine Go.getR fo_F_10 k0 (by decide +kernel) ?_
    refine Go.getR fo_F_89 (kf_7_0 k0) (by decide +kernel) ?_
    refine Go.getI fo_F_99 (kf_1_0 (kf_7_0 k0)) (by decide +kernel) ?_
    refine Go.ic_ge (off := 64) (tgt := 98) (by decide +kernel) (by decide) (fun c1 => ?_) (fun c1 => ?_)
    · replace e := ite_t c1 e
      refine Go.run (pc' := 99) [.iload_n 1] (ls' := [some (.ref a0), some (.int x1), some (.int x2), some (.int x3), some (.int x4), none, none]) (st' := [.int x1]) (by decide +kernel) rfl rfl ?_
      refine Go.if_eq (off := 8) (tgt := 107) (by decide +kernel) (by decide) (fun c2 => ?_) (fun c2 => ?_)
      · replace e := ite_t c2 e
        refine Go.wk' (wkn (wkn (wks (wkn (wkn (wks (wks wk0))))))) ?_
        exact x_F_bestSwap_107 hf hI  e
      · replace e := ite_f c2 e
        refine Go.run (pc' := 104) [.iload_n 2, .iconst (-1)] (ls' := [some (.ref a0), some (.int x1), some (.int x2), some (.int x3), some (.int x4), none, none]) (st' := [.int (-1 : Int32), .int x2]) (by decide +kernel) rfl rfl ?_
        refine Go.ic_ne (off := 7) (tgt := 111) (by decide +kernel) (by decide) (fun c3 => ?_) (fun c3 => ?_)
        · replace e := ite_f c3 e
          refine Go.run (pc' := 112) [.iload_n 3] (ls' := [some (.ref a0), some (.int x1), some (.int x2), some (.int x3), some (.int x4), none, none]) (st' := [.int x3]) (by decide +kernel) rfl rfl ?_
          obtain rfl := Option.some.inj e
          exact Go.iret (M := m_F_bestSwap) rfl (by decide) (by decide) (by decide +kernel)
        · replace e := ite_t c3 e
          refine Go.wk' (wkn (wkn (wks (wkn (wkn (wks (wks wk0))))))) ?_
          exact x_F_bestSwap_107 hf hI  e
    · replace e := ite_f c1 e
      refine Go.run (pc' := 43) [.iload 4, .iconst 1, .iadd, .istore 5] (ls' := [some (.ref a0), some (.int x1), some (.int x2), some (.int x3), some (.int x4), some (.int (x4 + (1 : Int32))), none]) (st' := []) (by decide +kernel) rfl rfl ?_
      exact x_F_bestSwap_43 hf hI (fun kk0 e => ih kk0 e) 4096 k0 e
def f_F_bestSwap (h : HP) (a0 : Nat) (x1 : Int32) : Option (Res × HP) :=
  (f_F_inRange h x1 (0 : Int32) (1 : Int32)).bind fun v1 =>
  if v1 = 0 then some (.inr "java/lang/IllegalArgumentException", h) else
  (f_A_rents h (fld a0 0)).bind fun v4 =>
  f_F_bestSwap_22 4096 a0 x1 (-1 : Int32) v4 (0 : Int32) h
set_option maxHeartbeats 1000000 in
theorem x_F_bestSwap {l : Launch} {D : va_G} {ad : Nat → Nat} {aC : Nat → ClassId} (hf : l.flags = flags0) (hI : Inj ad) {h : HP} {a0 : Nat} {x1 : Int32} {r : Res × HP} (k0 : knd a0 = 7) (e : f_F_bestSwap h a0 x1 = some r) : CT l D ad aC (mr m_F_bestSwap r.1) [.ref a0, .int x1] h r.1 r.2 := by
  refine CT.ofGoR (by decide +kernel) rfl (Nat.le_of_ble_eq_true rfl) ?_
  unfold f_F_bestSwap at e
  show Go l D ad aC _ _ m_F_bestSwap 0 [some (.ref a0), some (.int x1), none, none, none, none, none] [] h 0 0
  refine Go.run (pc' := 3) [.iload_n 1, .iconst 0, .iconst 1] (ls' := [some (.ref a0), some (.int x1), none, none, none, none, none]) (st' := [.int (1 : Int32), .int (0 : Int32), .int x1]) (by decide +kernel) rfl rfl ?_
  obtain ⟨v1, e2, e⟩ := bd_inv e
  refine Go.callS (M2 := m_F_inRange) (as := [.int x1, .int (0 : Int32), .int (1 : Int32)]) (rest := []) (v := some (.int v1)) (h1 := h) (x_F_inRange hf hI  e2) ws_F_44 (by decide +kernel) rfl rfl ⟨⟨Nat.le_of_ble_eq_true rfl, Nat.le_of_ble_eq_true rfl⟩, ⟨Nat.zero_le _, Nat.zero_le _⟩⟩ (Nat.le_of_ble_eq_true rfl) ?_
  show Go l D ad aC _ _ m_F_bestSwap 6 [some (.ref a0), some (.int x1), none, none, none, none, none] [.int v1] h 0 0
  rcases Decidable.em (v1 = 0) with c3 | c3
  · replace e := ite_t c3 e
    obtain rfl := Option.some.inj e
    exact Go.mr (res := .inr "java/lang/IllegalArgumentException") (Go.thrown (M := mr m_F_bestSwap (.inr "java/lang/IllegalArgumentException")) (M2 := mr m_F_needArgument (.inr "java/lang/IllegalArgumentException")) (as := [.int v1]) (rest := []) (h1 := h) (by have q := x_F_needArgument (l := l) (D := D) (ad := ad) (aC := aC) hf (h := h) (b := v1); rw [if_pos c3] at q; exact q) (WS.mr ws_F_48) (by decide +kernel) rfl rfl ⟨⟨Nat.le_of_ble_eq_true rfl, Nat.le_of_ble_eq_true rfl⟩, ⟨Nat.le_of_ble_eq_true rfl, Nat.le_of_ble_eq_true rfl⟩⟩ (Nat.le_of_ble_eq_true rfl) rfl (by decide) (by decide) (by decide))
  replace e := ite_f c3 e
  refine Go.callS (M2 := mr m_F_needArgument (.inl none)) (as := [.int v1]) (rest := []) (v := none) (h1 := h) (by have q := x_F_needArgument (l := l) (D := D) (ad := ad) (aC := aC) hf (h := h) (b := v1); rw [if_neg c3] at q; exact q) (WS.mr ws_F_48) (by decide +kernel) rfl rfl ⟨⟨Nat.le_of_ble_eq_true rfl, Nat.le_of_ble_eq_true rfl⟩, ⟨Nat.zero_le _, Nat.zero_le _⟩⟩ (Nat.le_of_ble_eq_true rfl) ?_
  show Go l D ad aC _ _ m_F_bestSwap 9 [some (.ref a0), some (.int x1), none, none, none, none, none] [] h 0 0
  refine Go.run (pc' := 12) [.iconst (-1), .istore_n 2, .aload_n 0] (ls' := [some (.ref a0), some (.int x1), some (.int (-1 : Int32)), none, none, none, none]) (st' := [.ref a0]) (by decide +kernel) rfl rfl ?_
  refine Go.getR fo_F_10 k0 (by decide +kernel) ?_
  obtain ⟨v4, e5, e⟩ := bd_inv e
  refine Go.callV (M2 := m_A_rents) (a := (fld a0 0)) (as := []) (rest := []) (v := some (.int v4)) (h1 := h) (x_A_rents hf hI (kf_7_0 k0) e5) wv_F_120 (kf_7_0 k0) kc_1 (by decide +kernel) rfl rfl ⟨⟨Nat.le_of_ble_eq_true rfl, Nat.le_of_ble_eq_true rfl⟩, ⟨Nat.zero_le _, Nat.zero_le _⟩⟩ (Nat.le_of_ble_eq_true rfl) ?_
  show Go l D ad aC _ _ m_F_bestSwap 18 [some (.ref a0), some (.int x1), some (.int (-1 : Int32)), none, none, none, none] [.int v4] h 0 0
  refine Go.run (pc' := 22) [.istore_n 3, .iconst 0, .istore 4] (ls' := [some (.ref a0), some (.int x1), some (.int (-1 : Int32)), some (.int v4), some (.int (0 : Int32)), none, none]) (st' := []) (by decide +kernel) rfl rfl ?_
  exact x_F_bestSwap_22 hf hI 4096 k0 e
def f_F_why_46  (a0 : Nat) (x1 : Int32) (x2 : Int32) (s0 : Int32) (h : HP) : Option (Res × HP) :=
  if s0 = 0 then some (.inr "java/lang/IllegalArgumentException", h) else
  (f_A_swapReason h (fld a0 0) x1 x2).bind fun v2 =>
  some (.inl (some (.int v2)), h)
set_option maxHeartbeats 1000000 in
theorem x_F_why_46 {l : Launch} {D : va_G} {ad : Nat → Nat} {aC : Nat → ClassId} (hf : l.flags = flags0) (hI : Inj ad) {a0 : Nat} {x1 : Int32} {x2 : Int32} {s0 : Int32} {h : HP} {r : Res × HP} (k0 : knd a0 = 7) (e : f_F_why_46 a0 x1 x2 s0 h = some r) : Go l D ad aC (rmk (mr m_F_why r.1)) (QM D ad aC (mr m_F_why r.1) r.1 r.2) m_F_why 46 [some (.ref a0), some (.int x1), some (.int x2)] [.int s0] h 0 0 := by
  unfold f_F_why_46 at e
  rcases Decidable.em (s0 = 0) with c1 | c1
  · replace e := ite_t c1 e
    obtain rfl := Option.some.inj e
    exact Go.mr (res := .inr "java/lang/IllegalArgumentException") (Go.thrown (M := mr m_F_why (.inr "java/lang/IllegalArgumentException")) (M2 := mr m_F_needArgument (.inr "java/lang/IllegalArgumentException")) (as := [.int s0]) (rest := []) (h1 := h) (by have q := x_F_needArgument (l := l) (D := D) (ad := ad) (aC := aC) hf (h := h) (b := s0); rw [if_pos c1] at q; exact q) (WS.mr ws_F_48) (by decide +kernel) rfl rfl ⟨⟨Nat.le_of_ble_eq_true rfl, Nat.le_of_ble_eq_true rfl⟩, ⟨Nat.le_of_ble_eq_true rfl, Nat.le_of_ble_eq_true rfl⟩⟩ (Nat.le_of_ble_eq_true rfl) rfl (by decide) (by decide) (by decide))
  replace e := ite_f c1 e
  refine Go.callS (M2 := mr m_F_needArgument (.inl none)) (as := [.int s0]) (rest := []) (v := none) (h1 := h) (by have q := x_F_needArgument (l := l) (D := D) (ad := ad) (aC := aC) hf (h := h) (b := s0); rw [if_neg c1] at q; exact q) (WS.mr ws_F_48) (by decide +kernel) rfl rfl ⟨⟨Nat.le_of_ble_eq_true rfl, Nat.le_of_ble_eq_true rfl⟩, ⟨Nat.zero_le _, Nat.zero_le _⟩⟩ (Nat.le_of_ble_eq_true rfl) ?_
  show Go l D ad aC _ _ m_F_why 49 [some (.ref a0), some (.int x1), some (.int x2)] [] h 0 0
  refine Go.run (pc' := 50) [.aload_n 0] (ls' := [some (.ref a0), some (.int x1), some (.int x2)]) (st' := [.ref a0]) (by decide +kernel) rfl rfl ?_
  refine Go.getR fo_F_10 k0 (by decide +kernel) ?_
  refine Go.run (pc' := 55) [.iload_n 1, .iload_n 2] (ls' := [some (.ref a0), some (.int x1), some (.int x2)]) (st' := [.int x2, .int x1, .ref (fld a0 0)]) (by decide +kernel) rfl rfl ?_
  obtain ⟨v2, e3, e⟩ := bd_inv e
  refine Go.callV (M2 := m_A_swapReason) (a := (fld a0 0)) (as := [.int x1, .int x2]) (rest := []) (v := some (.int v2)) (h1 := h) (x_A_swapReason hf hI (kf_7_0 k0) e3) wv_F_295 (kf_7_0 k0) kc_1 (by decide +kernel) rfl rfl ⟨⟨Nat.le_of_ble_eq_true rfl, Nat.le_of_ble_eq_true rfl⟩, ⟨Nat.zero_le _, Nat.zero_le _⟩⟩ (Nat.le_of_ble_eq_true rfl) ?_
  show Go l D ad aC _ _ m_F_why 58 [some (.ref a0), some (.int x1), some (.int x2)] [.int v2] h 0 0
  obtain rfl := Option.some.inj e
  exact Go.iret (M := m_F_why) rfl (by decide) (by decide) (by decide +kernel)
def f_F_why_33  (a0 : Nat) (x1 : Int32) (x2 : Int32) (s0 : Int32) (h : HP) : Option (Res × HP) :=
  if s0 = 0 then some (.inr "java/lang/IndexOutOfBoundsException", h) else
  if x1 = x2 then
    f_F_why_46 a0 x1 x2 (0 : Int32) h
  else
    f_F_why_46 a0 x1 x2 (1 : Int32) h
set_option maxHeartbeats 1000000 in
theorem x_F_why_33 {l : Launch} {D : va_G} {ad : Nat → Nat} {aC : Nat → ClassId} (hf : l.flags = flags0) (hI : Inj ad) {a0 : Nat} {x1 : Int32} {x2 : Int32} {s0 : Int32} {h : HP} {r : Res × HP} (k0 : knd a0 = 7) (e : f_F_why_33 a0 x1 x2 s0 h = some r) : Go l D ad aC (rmk (mr m_F_why r.1)) (QM D ad aC (mr m_F_why r.1) r.1 r.2) m_F_why 33 [some (.ref a0), some (.int x1), some (.int x2)] [.int s0] h 0 0 := by
  unfold f_F_why_33 at e
  rcases Decidable.em (s0 = 0) with c1 | c1
  · replace e := ite_t c1 e
    obtain rfl := Option.some.inj e
    exact Go.mr (res := .inr "java/lang/IndexOutOfBoundsException") (Go.thrown (M := mr m_F_why (.inr "java/lang/IndexOutOfBoundsException")) (M2 := mr m_F_needExists (.inr "java/lang/IndexOutOfBoundsException")) (as := [.int s0]) (rest := []) (h1 := h) (by have q := x_F_needExists (l := l) (D := D) (ad := ad) (aC := aC) hf (h := h) (b := s0); rw [if_pos c1] at q; exact q) (WS.mr ws_F_142) (by decide +kernel) rfl rfl ⟨⟨Nat.le_of_ble_eq_true rfl, Nat.le_of_ble_eq_true rfl⟩, ⟨Nat.le_of_ble_eq_true rfl, Nat.le_of_ble_eq_true rfl⟩⟩ (Nat.le_of_ble_eq_true rfl) rfl (by decide) (by decide) (by decide))
  replace e := ite_f c1 e
  refine Go.callS (M2 := mr m_F_needExists (.inl none)) (as := [.int s0]) (rest := []) (v := none) (h1 := h) (by have q := x_F_needExists (l := l) (D := D) (ad := ad) (aC := aC) hf (h := h) (b := s0); rw [if_neg c1] at q; exact q) (WS.mr ws_F_142) (by decide +kernel) rfl rfl ⟨⟨Nat.le_of_ble_eq_true rfl, Nat.le_of_ble_eq_true rfl⟩, ⟨Nat.zero_le _, Nat.zero_le _⟩⟩ (Nat.le_of_ble_eq_true rfl) ?_
  show Go l D ad aC _ _ m_F_why 36 [some (.ref a0), some (.int x1), some (.int x2)] [] h 0 0
  refine Go.run (pc' := 38) [.iload_n 1, .iload_n 2] (ls' := [some (.ref a0), some (.int x1), some (.int x2)]) (st' := [.int x2, .int x1]) (by decide +kernel) rfl rfl ?_
  refine Go.ic_eq (off := 7) (tgt := 45) (by decide +kernel) (by decide) (fun c2 => ?_) (fun c2 => ?_)
  · replace e := ite_t c2 e
    refine Go.run (pc' := 46) [.iconst 0] (ls' := [some (.ref a0), some (.int x1), some (.int x2)]) (st' := [.int (0 : Int32)]) (by decide +kernel) rfl rfl ?_
    exact x_F_why_46 hf hI k0 e
  · replace e := ite_f c2 e
    refine Go.run (pc' := 42) [.iconst 1] (ls' := [some (.ref a0), some (.int x1), some (.int x2)]) (st' := [.int (1 : Int32)]) (by decide +kernel) rfl rfl ?_
    refine Go.goto (off := 4) (tgt := 46) (by decide +kernel) (by decide) ?_
    exact x_F_why_46 hf hI k0 e
def f_F_why_32  (a0 : Nat) (x1 : Int32) (x2 : Int32) (h : HP) : Option (Res × HP) :=
  f_F_why_33 a0 x1 x2 (0 : Int32) h
set_option maxHeartbeats 1000000 in
theorem x_F_why_32 {l : Launch} {D : va_G} {ad : Nat → Nat} {aC : Nat → ClassId} (hf : l.flags = flags0) (hI : Inj ad) {a0 : Nat} {x1 : Int32} {x2 : Int32} {h : HP} {r : Res × HP} (k0 : knd a0 = 7) (e : f_F_why_32 a0 x1 x2 h = some r) : Go l D ad aC (rmk (mr m_F_why r.1)) (QM D ad aC (mr m_F_why r.1) r.1 r.2) m_F_why 32 [some (.ref a0), some (.int x1), some (.int x2)] [] h 0 0 := by
  unfold f_F_why_32 at e
  refine Go.run (pc' := 33) [.iconst 0] (ls' := [some (.ref a0), some (.int x1), some (.int x2)]) (st' := [.int (0 : Int32)]) (by decide +kernel) rfl rfl ?_
  exact x_F_why_33 hf hI k0 e
def f_F_why (h : HP) (a0 : Nat) (x1 : Int32) (x2 : Int32) : Option (Res × HP) :=
  (f_S_hasDealer h (fld (fld a0 0) 0) x1).bind fun v1 =>
  if v1 = 0 then
    f_F_why_32 a0 x1 x2 h
  else
    (f_S_hasDealer h (fld (fld a0 0) 0) x2).bind fun v4 =>
    if v4 = 0 then
      f_F_why_32 a0 x1 x2 h
    else
      f_F_why_33 a0 x1 x2 (1 : Int32) h
set_option maxHeartbeats 1000000 in
theorem x_F_why {l : Launch} {D : va_G} {ad : Nat → Nat} {aC : Nat → ClassId} (hf : l.flags = flags0) (hI : Inj ad) {h : HP} {a0 : Nat} {x1 : Int32} {x2 : Int32} {r : Res × HP} (k0 : knd a0 = 7) (e : f_F_why h a0 x1 x2 = some r) : CT l D ad aC (mr m_F_why r.1) [.ref a0, .int x1, .int x2] h r.1 r.2 := by
  refine CT.ofGoR (by decide +kernel) rfl (Nat.le_of_ble_eq_true rfl) ?_
  unfold f_F_why at e
  show Go l D ad aC _ _ m_F_why 0 [some (.ref a0), some (.int x1), some (.int x2)] [] h 0 0
  refine Go.run (pc' := 1) [.aload_n 0] (ls' := [some (.ref a0), some (.int x1), some (.int x2)]) (st' := [.ref a0]) (by decide +kernel) rfl rfl ?_
  refine Go.getR fo_F_10 k0 (by decide +kernel) ?_
  refine Go.getR fo_F_89 (kf_7_0 k0) (by decide +kernel) ?_
  refine Go.run (pc' := 8) [.iload_n 1] (ls' := [some (.ref a0), some (.int x1), some (.int x2)]) (st' := [.int x1, .ref (fld (fld a0 0) 0)]) (by decide +kernel) rfl rfl ?_
  obtain ⟨v1, e2, e⟩ := bd_inv e
  refine Go.callV (M2 := m_S_hasDealer) (a := (fld (fld a0 0) 0)) (as := [.int x1]) (rest := []) (v := some (.int v1)) (h1 := h) (x_S_hasDealer hf hI (kf_1_0 (kf_7_0 k0)) e2) wv_F_184 (kf_1_0 (kf_7_0 k0)) kc_6 (by decide +kernel) rfl rfl ⟨⟨Nat.le_of_ble_eq_true rfl, Nat.le_of_ble_eq_true rfl⟩, ⟨Nat.zero_le _, Nat.zero_le _⟩⟩ (Nat.le_of_ble_eq_true rfl) ?_
  show Go l D ad aC _ _ m_F_why 11 [some (.ref a0), some (.int x1), some (.int x2)] [.int v1] h 0 0
  refine Go.if_eq (off := 21) (tgt := 32) (by decide +kernel) (by decide) (fun c3 => ?_) (fun c3 => ?_)
  · replace e := ite_t c3 e
    exact x_F_why_32 hf hI k0 e
  · replace e := ite_f c3 e
    refine Go.run (pc' := 15) [.aload_n 0] (ls' := [some (.ref a0), some (.int x1), some (.int x2)]) (st' := [.ref a0]) (by decide +kernel) rfl rfl ?_
    refine Go.getR fo_F_10 k0 (by decide +kernel) ?_
    refine Go.getR fo_F_89 (kf_7_0 k0) (by decide +kernel) ?_
    refine Go.run (pc' := 22) [.iload_n 2] (ls' := [some (.ref a0), some (.int x1), some (.int x2)]) (st' := [.int x2, .ref (fld (fld a0 0) 0)]) (by decide +kernel) rfl rfl ?_
    obtain ⟨v4, e5, e⟩ := bd_inv e
    refine Go.callV (M2 := m_S_hasDealer) (a := (fld (fld a0 0) 0)) (as := [.int x2]) (rest := []) (v := some (.int v4)) (h1 := h) (x_S_hasDealer hf hI (kf_1_0 (kf_7_0 k0)) e5) wv_F_184 (kf_1_0 (kf_7_0 k0)) kc_6 (by decide +kernel) rfl rfl ⟨⟨Nat.le_of_ble_eq_true rfl, Nat.le_of_ble_eq_true rfl⟩, ⟨Nat.zero_le _, Nat.zero_le _⟩⟩ (Nat.le_of_ble_eq_true rfl) ?_
    show Go l D ad aC _ _ m_F_why 25 [some (.ref a0), some (.int x1), some (.int x2)] [.int v4] h 0 0
    refine Go.if_eq (off := 7) (tgt := 32) (by decide +kernel) (by decide) (fun c6 => ?_) (fun c6 => ?_)
    · replace e := ite_t c6 e
      exact x_F_why_32 hf hI k0 e
    · replace e := ite_f c6 e
      refine Go.run (pc' := 29) [.iconst 1] (ls' := [some (.ref a0), some (.int x1), some (.int x2)]) (st' := [.int (1 : Int32)]) (by decide +kernel) rfl rfl ?_
      refine Go.goto (off := 4) (tgt := 33) (by decide +kernel) (by decide) ?_
      exact x_F_why_33 hf hI k0 e
def f_F_splitScript_8  : Nat → Nat → Int64 → Int32 → HP → Option (Int64 × HP)
  | 0, _, _, _, _ => none
  | n + 1, a0, y4, x6, h =>
    if x6 < 0 then
      some (y4, h)
    else
      if (3 : Int32) ≤ x6 then
        some (y4, h)
      else
        if ¬ (100000 : Int64) = 0 then
        if ib x6 3 = true then
        (some (hset h (fld a0 5) x6.toNatClampNeg ((y4 - y4 / (100000 : Int64) * (100000 : Int64)).toInt32))).bind fun h5 =>
        if ¬ (100000 : Int64) = 0 then
        f_F_splitScript_8 n a0 (y4 / (100000 : Int64)) (x6 + (Int32.ofInt (-1))) h5
        else none
        else none
        else none
set_option maxHeartbeats 1000000 in
theorem x_F_splitScript_8 {l : Launch} {D : va_G} {ad : Nat → Nat} {aC : Nat → ClassId} (hf : l.flags = flags0) (hI : Inj ad) : ∀ (n : Nat) {a0 : Nat} {y4 : Int64} {x6 : Int32} {h : HP} {r : Int64 × HP}, knd a0 = 7 → f_F_splitScript_8 n a0 y4 x6 h = some r → Go l D ad aC (rmk m_F_splitScript) (QM D ad aC m_F_splitScript (.inl (some (.long r.1))) r.2) m_F_splitScript 8 [some (.ref a0), none, none, none, some (.long y4), none, some (.int x6)] [] h 0 0 := by
  intro n
  induction n with
  | zero => intro a0 y4 x6 h r k0 e; exact no_none e
  | succ n ih =>
    intro a0 y4 x6 h r k0 e
    rw [f_F_splitScript_8] at e
    refine Go.run (pc' := 10) [.iload 6] (ls' := [some (.ref a0), none, none, none, some (.long y4), none, some (.int x6)]) (st' := [.int x6]) (by decide +kernel) rfl rfl ?_
    refine Go.if_lt (off := 37) (tgt := 47) (by decide +kernel) (by decide) (fun c1 => ?_) (fun c1 => ?_)
    · replace e := ite_t c1 e
      refine Go.run (pc' := 49) [.lload 4] (ls' := [some (.ref a0), none, none, none, some (.long y4), none, some (.int x6)]) (st' := [.long y4]) (by decide +kernel) rfl rfl ?_
      obtain rfl := Option.some.inj e
      exact Go.lret rfl (by decide) (by decide) (by decide +kernel)
    · replace e := ite_f c1 e
      refine Go.run (pc' := 16) [.iload 6, .iconst 3] (ls' := [some (.ref a0), none, none, none, some (.long y4), none, some (.int x6)]) (st' := [.int (3 : Int32), .int x6]) (by decide +kernel) rfl rfl ?_
      refine Go.ic_ge (off := 31) (tgt := 47) (by decide +kernel) (by decide) (fun c2 => ?_) (fun c2 => ?_)
      · replace e := ite_t c2 e
        refine Go.run (pc' := 49) [.lload 4] (ls' := [some (.ref a0), none, none, none, some (.long y4), none, some (.int x6)]) (st' := [.long y4]) (by decide +kernel) rfl rfl ?_
        obtain rfl := Option.some.inj e
        exact Go.lret rfl (by decide) (by decide) (by decide +kernel)
      · replace e := ite_f c2 e
        refine Go.run (pc' := 20) [.aload_n 0] (ls' := [some (.ref a0), none, none, none, some (.long y4), none, some (.int x6)]) (st' := [.ref a0]) (by decide +kernel) rfl rfl ?_
        refine Go.getR fo_F_40 k0 (by decide +kernel) ?_
        refine Go.run (pc' := 27) [.iload 6, .lload 4] (ls' := [some (.ref a0), none, none, none, some (.long y4), none, some (.int x6)]) (st' := [.long y4, .int x6, .ref (fld a0 5)]) (by decide +kernel) rfl rfl ?_
        refine Go.ldc2 lo_F_342 (by decide +kernel) ?_
        obtain ⟨g3, e⟩ := gd_inv e
        refine Go.lremn g3 (by decide +kernel) ?_
        refine Go.run (pc' := 32) [.l2i] (ls' := [some (.ref a0), none, none, none, some (.long y4), none, some (.int x6)]) (st' := [.int ((y4 - y4 / (100000 : Int64) * (100000 : Int64)).toInt32), .int x6, .ref (fld a0 5)]) (by decide +kernel) rfl rfl ?_
        obtain ⟨g4, e⟩ := gd_inv e
        refine Go.iast hI (kf_7_5 k0) (al_7_5 k0) g4 (by decide +kernel) ?_
        obtain ⟨h5, q6, e⟩ := bd_inv e
        refine Go.eqH (Option.some.inj q6) ?_
        refine Go.run (pc' := 35) [.lload 4] (ls' := [some (.ref a0), none, none, none, some (.long y4), none, some (.int x6)]) (st' := [.long y4]) (by decide +kernel) rfl rfl ?_
        refine Go.ldc2 lo_F_342 (by decide +kernel) ?_
        obtain ⟨g7, e⟩ := gd_inv e
        refine Go.ldivn g7 (by decide +kernel) ?_
        refine Go.run (pc' := 44) [.lstore 4, .iinc 6 (-1)] (ls' := [some (.ref a0), none, none, none, some (.long (y4 / (100000 : Int64))), none, some (.int (x6 + (Int32.ofInt (-1))))]) (st' := []) (by decide +kernel) rfl rfl ?_
        refine Go.goto (off := -36) (tgt := 8) (by decide +kernel) (by decide) ?_
        exact ih k0 e
def f_F_splitScript (h : HP) (a0 : Nat) (x1 : Int32) (y2 : Int64) : Option (Int64 × HP) :=
  f_F_splitScript_8 4096 a0 y2 (x1 - (1 : Int32)) h
set_option maxHeartbeats 1000000 in
theorem x_F_splitScript {l : Launch} {D : va_G} {ad : Nat → Nat} {aC : Nat → ClassId} (hf : l.flags = flags0) (hI : Inj ad) {h : HP} {a0 : Nat} {x1 : Int32} {y2 : Int64} {r : Int64 × HP} (k0 : knd a0 = 7) (e : f_F_splitScript h a0 x1 y2 = some r) : CT l D ad aC m_F_splitScript [.ref a0, .int x1, .long y2] h (.inl (some (.long r.1))) r.2 := by
  refine CT.ofGo (by decide +kernel) rfl (Nat.le_of_ble_eq_true rfl) ?_
  unfold f_F_splitScript at e
  show Go l D ad aC (rmk m_F_splitScript) _ m_F_splitScript 0 [some (.ref a0), some (.int x1), some (.long y2), none, none, none, none] [] h 0 0
  refine Go.run (pc' := 8) [.lload_n 2, .lstore 4, .iload_n 1, .iconst 1, .isub, .istore 6] (ls' := [some (.ref a0), some (.int x1), some (.long y2), none, some (.long y2), none, some (.int (x1 - (1 : Int32)))]) (st' := []) (by decide +kernel) rfl rfl ?_
  refine Go.wk' (wks (wkn (wkn (wks (wks (wks (wks wk0))))))) ?_
  exact x_F_splitScript_8 hf hI 4096 k0 e
def f_F_runScript_59  : Nat → Nat → Int32 → Int32 → HP → Option (Res × HP)
  | 0, _, _, _, _ => none
  | n + 1, a0, x1, x4, h =>
    if x1 ≤ x4 then
      some (.inl (some (.int (-1 : Int32))), h)
    else
      if (3 : Int32) ≤ x4 then
        some (.inl (some (.int (-1 : Int32))), h)
      else
        if ib x4 3 = true then
        (f_C_obeyGroup h (fld a0 1) (h (fld a0 5) x4.toNatClampNeg)).bind fun v4 =>
        if v4.1 = 0 then
          some (.inl (some (.int x4)), v4.2)
        else
          f_F_runScript_59 n a0 x1 (x4 + (1 : Int32)) v4.2
        else none
set_option maxHeartbeats 1000000 in
theorem x_F_runScript_59 {l : Launch} {D : va_G} {ad : Nat → Nat} {aC : Nat → ClassId} (hf : l.flags = flags0) (hI : Inj ad) : ∀ (n : Nat) {a0 : Nat} {x1 : Int32} {x4 : Int32} {h : HP} {r : Res × HP}, knd a0 = 7 → f_F_runScript_59 n a0 x1 x4 h = some r → Go l D ad aC (rmk (mr m_F_runScript r.1)) (QM D ad aC (mr m_F_runScript r.1) r.1 r.2) m_F_runScript 59 [some (.ref a0), some (.int x1), none, none, some (.int x4)] [] h 0 0 := by
  intro n
  induction n with
  | zero => intro a0 x1 x4 h r k0 e; exact no_none e
  | succ n ih =>
    intro a0 x1 x4 h r k0 e
    rw [f_F_runScript_59] at e
    refine Go.run (pc' := 62) [.iload 4, .iload_n 1] (ls' := [some (.ref a0), some (.int x1), none, none, some (.int x4)]) (st' := [.int x1, .int x4]) (by decide +kernel) rfl rfl ?_
    refine Go.ic_ge (off := 35) (tgt := 97) (by decide +kernel) (by decide) (fun c1 => ?_) (fun c1 => ?_)
    · replace e := ite_t c1 e
      refine Go.run (pc' := 98) [.iconst (-1)] (ls' := [some (.ref a0), some (.int x1), none, none, some (.int x4)]) (st' := [.int (-1 : Int32)]) (by decide +kernel) rfl rfl ?_
      obtain rfl := Option.some.inj e
      exact Go.iret (M := m_F_runScript) rfl (by decide) (by decide) (by decide +kernel)
    · replace e := ite_f c1 e
      refine Go.run (pc' := 68) [.iload 4, .iconst 3] (ls' := [some (.ref a0), some (.int x1), none, none, some (.int x4)]) (st' := [.int (3 : Int32), .int x4]) (by decide +kernel) rfl rfl ?_
      refine Go.ic_ge (off := 29) (tgt := 97) (by decide +kernel) (by decide) (fun c2 => ?_) (fun c2 => ?_)
      · replace e := ite_t c2 e
        refine Go.run (pc' := 98) [.iconst (-1)] (ls' := [some (.ref a0), some (.int x1), none, none, some (.int x4)]) (st' := [.int (-1 : Int32)]) (by decide +kernel) rfl rfl ?_
        obtain rfl := Option.some.inj e
        exact Go.iret (M := m_F_runScript) rfl (by decide) (by decide) (by decide +kernel)
      · replace e := ite_f c2 e
        refine Go.run (pc' := 72) [.aload_n 0] (ls' := [some (.ref a0), some (.int x1), none, none, some (.int x4)]) (st' := [.ref a0]) (by decide +kernel) rfl rfl ?_
        refine Go.getR fo_F_16 k0 (by decide +kernel) ?_
        refine Go.run (pc' := 76) [.aload_n 0] (ls' := [some (.ref a0), some (.int x1), none, none, some (.int x4)]) (st' := [.ref a0, .ref (fld a0 1)]) (by decide +kernel) rfl rfl ?_
        refine Go.getR fo_F_40 k0 (by decide +kernel) ?_
        refine Go.run (pc' := 81) [.iload 4] (ls' := [some (.ref a0), some (.int x1), none, none, some (.int x4)]) (st' := [.int x4, .ref (fld a0 5), .ref (fld a0 1)]) (by decide +kernel) rfl rfl ?_
        obtain ⟨g3, e⟩ := gd_inv e
        refine Go.iald (kf_7_5 k0) (al_7_5 k0) g3 (by decide +kernel) ?_
        obtain ⟨v4, e5, e⟩ := bd_inv e
        refine Go.callS (M2 := m_C_obeyGroup) (as := [.ref (fld a0 1), .int (h (fld a0 5) x4.toNatClampNeg)]) (rest := []) (v := some (.int v4.1)) (h1 := v4.2) (x_C_obeyGroup hf hI (kf_7_1 k0) e5) ws_F_302 (by decide +kernel) rfl rfl ⟨⟨Nat.le_of_ble_eq_true rfl, Nat.le_of_ble_eq_true rfl⟩, ⟨Nat.zero_le _, Nat.zero_le _⟩⟩ (Nat.le_of_ble_eq_true rfl) ?_
        show Go l D ad aC _ _ m_F_runScript 85 [some (.ref a0), some (.int x1), none, none, some (.int x4)] [.int v4.1] v4.2 0 0
        refine Go.if_ne (off := 6) (tgt := 91) (by decide +kernel) (by decide) (fun c6 => ?_) (fun c6 => ?_)
        · replace e := ite_f c6 e
          refine Go.run (pc' := 94) [.iinc 4 (1)] (ls' := [some (.ref a0), some (.int x1), none, none, some (.int (x4 + (1 : Int32)))]) (st' := []) (by decide +kernel) rfl rfl ?_
          refine Go.goto (off := -35) (tgt := 59) (by decide +kernel) (by decide) ?_
          exact ih k0 e
        · replace e := ite_t c6 e
          refine Go.run (pc' := 90) [.iload 4] (ls' := [some (.ref a0), some (.int x1), none, none, some (.int x4)]) (st' := [.int x4]) (by decide +kernel) rfl rfl ?_
          obtain rfl := Option.some.inj e
          exact Go.iret (M := m_F_runScript) rfl (by decide) (by decide) (by decide +kernel)
def f_F_runScript_39  (a0 : Nat) (x1 : Int32) (s0 : Int32) (h : HP) : Option (Res × HP) :=
  if s0 = 0 then some (.inr "java/lang/IllegalArgumentException", h) else
  (f_A_become h (fld a0 1) (fld (fld a0 0) 0)).bind fun v2 =>
  f_F_runScript_59 4096 a0 x1 (0 : Int32) v2
set_option maxHeartbeats 1000000 in
theorem x_F_runScript_39 {l : Launch} {D : va_G} {ad : Nat → Nat} {aC : Nat → ClassId} (hf : l.flags = flags0) (hI : Inj ad) {a0 : Nat} {x1 : Int32} {s0 : Int32} {h : HP} {r : Res × HP} (k0 : knd a0 = 7) (e : f_F_runScript_39 a0 x1 s0 h = some r) : Go l D ad aC (rmk (mr m_F_runScript r.1)) (QM D ad aC (mr m_F_runScript r.1) r.1 r.2) m_F_runScript 39 [some (.ref a0), some (.int x1), none, none, none] [.int s0] h 0 0 := by
  unfold f_F_runScript_39 at e
  rcases Decidable.em (s0 = 0) with c1 | c1
  · replace e := ite_t c1 e
    obtain rfl := Option.some.inj e
    exact Go.mr (res := .inr "java/lang/IllegalArgumentException") (Go.thrown (M := mr m_F_runScript (.inr "java/lang/IllegalArgumentException")) (M2 := mr m_F_needArgument (.inr "java/lang/IllegalArgumentException")) (as := [.int s0]) (rest := []) (h1 := h) (by have q := x_F_needArgument (l := l) (D := D) (ad := ad) (aC := aC) hf (h := h) (b := s0); rw [if_pos c1] at q; exact q) (WS.mr ws_F_48) (by decide +kernel) rfl rfl ⟨⟨Nat.le_of_ble_eq_true rfl, Nat.le_of_ble_eq_true rfl⟩, ⟨Nat.le_of_ble_eq_true rfl, Nat.le_of_ble_eq_true rfl⟩⟩ (Nat.le_of_ble_eq_true rfl) rfl (by decide) (by decide) (by decide))
  replace e := ite_f c1 e
  refine Go.callS (M2 := mr m_F_needArgument (.inl none)) (as := [.int s0]) (rest := []) (v := none) (h1 := h) (by have q := x_F_needArgument (l := l) (D := D) (ad := ad) (aC := aC) hf (h := h) (b := s0); rw [if_neg c1] at q; exact q) (WS.mr ws_F_48) (by decide +kernel) rfl rfl ⟨⟨Nat.le_of_ble_eq_true rfl, Nat.le_of_ble_eq_true rfl⟩, ⟨Nat.zero_le _, Nat.zero_le _⟩⟩ (Nat.le_of_ble_eq_true rfl) ?_
  show Go l D ad aC _ _ m_F_runScript 42 [some (.ref a0), some (.int x1), none, none, none] [] h 0 0
  refine Go.run (pc' := 43) [.aload_n 0] (ls' := [some (.ref a0), some (.int x1), none, none, none]) (st' := [.ref a0]) (by decide +kernel) rfl rfl ?_
  refine Go.getR fo_F_16 k0 (by decide +kernel) ?_
  refine Go.run (pc' := 47) [.aload_n 0] (ls' := [some (.ref a0), some (.int x1), none, none, none]) (st' := [.ref a0, .ref (fld a0 1)]) (by decide +kernel) rfl rfl ?_
  refine Go.getR fo_F_10 k0 (by decide +kernel) ?_
  refine Go.getR fo_F_89 (kf_7_0 k0) (by decide +kernel) ?_
  obtain ⟨v2, e3, e⟩ := bd_inv e
  refine Go.callV (M2 := m_A_become) (a := (fld a0 1)) (as := [.ref (fld (fld a0 0) 0)]) (rest := []) (v := none) (h1 := v2) (x_A_become hf hI (kf_7_1 k0) (kf_1_0 (kf_7_0 k0)) e3) wv_F_286 (kf_7_1 k0) kc_1 (by decide +kernel) rfl rfl ⟨⟨Nat.le_of_ble_eq_true rfl, Nat.le_of_ble_eq_true rfl⟩, ⟨Nat.zero_le _, Nat.zero_le _⟩⟩ (Nat.le_of_ble_eq_true rfl) ?_
  show Go l D ad aC _ _ m_F_runScript 56 [some (.ref a0), some (.int x1), none, none, none] [] v2 0 0
  refine Go.run (pc' := 59) [.iconst 0, .istore 4] (ls' := [some (.ref a0), some (.int x1), none, none, some (.int (0 : Int32))]) (st' := []) (by decide +kernel) rfl rfl ?_
  exact x_F_runScript_59 hf hI 4096 k0 e
def f_F_runScript_20  (a0 : Nat) (x1 : Int32) (y2 : Int64) (s0 : Int32) (h : HP) : Option (Res × HP) :=
  if s0 = 0 then some (.inr "java/lang/IllegalArgumentException", h) else
  (f_F_splitScript h a0 x1 y2).bind fun v2 =>
  if (lg_cmp v2.1 (0 : Int64)) = 0 then
    f_F_runScript_39 a0 x1 (1 : Int32) v2.2
  else
    f_F_runScript_39 a0 x1 (0 : Int32) v2.2
set_option maxHeartbeats 1000000 in
theorem x_F_runScript_20 {l : Launch} {D : va_G} {ad : Nat → Nat} {aC : Nat → ClassId} (hf : l.flags = flags0) (hI : Inj ad) {a0 : Nat} {x1 : Int32} {y2 : Int64} {s0 : Int32} {h : HP} {r : Res × HP} (k0 : knd a0 = 7) (e : f_F_runScript_20 a0 x1 y2 s0 h = some r) : Go l D ad aC (rmk (mr m_F_runScript r.1)) (QM D ad aC (mr m_F_runScript r.1) r.1 r.2) m_F_runScript 20 [some (.ref a0), some (.int x1), some (.long y2), none, none] [.int s0] h 0 0 := by
  unfold f_F_runScript_20 at e
  rcases Decidable.em (s0 = 0) with c1 | c1
  · replace e := ite_t c1 e
    obtain rfl := Option.some.inj e
    exact Go.mr (res := .inr "java/lang/IllegalArgumentException") (Go.thrown (M := mr m_F_runScript (.inr "java/lang/IllegalArgumentException")) (M2 := mr m_F_needArgument (.inr "java/lang/IllegalArgumentException")) (as := [.int s0]) (rest := []) (h1 := h) (by have q := x_F_needArgument (l := l) (D := D) (ad := ad) (aC := aC) hf (h := h) (b := s0); rw [if_pos c1] at q; exact q) (WS.mr ws_F_48) (by decide +kernel) rfl rfl ⟨⟨Nat.le_of_ble_eq_true rfl, Nat.le_of_ble_eq_true rfl⟩, ⟨Nat.le_of_ble_eq_true rfl, Nat.le_of_ble_eq_true rfl⟩⟩ (Nat.le_of_ble_eq_true rfl) rfl (by decide) (by decide) (by decide))
  replace e := ite_f c1 e
  refine Go.callS (M2 := mr m_F_needArgument (.inl none)) (as := [.int s0]) (rest := []) (v := none) (h1 := h) (by have q := x_F_needArgument (l := l) (D := D) (ad := ad) (aC := aC) hf (h := h) (b := s0); rw [if_neg c1] at q; exact q) (WS.mr ws_F_48) (by decide +kernel) rfl rfl ⟨⟨Nat.le_of_ble_eq_true rfl, Nat.le_of_ble_eq_true rfl⟩, ⟨Nat.zero_le _, Nat.zero_le _⟩⟩ (Nat.le_of_ble_eq_true rfl) ?_
  show Go l D ad aC _ _ m_F_runScript 23 [some (.ref a0), some (.int x1), some (.long y2), none, none] [] h 0 0
  refine Go.run (pc' := 26) [.aload_n 0, .iload_n 1, .lload_n 2] (ls' := [some (.ref a0), some (.int x1), some (.long y2), none, none]) (st' := [.long y2, .int x1, .ref a0]) (by decide +kernel) rfl rfl ?_
  obtain ⟨v2, e3, e⟩ := bd_inv e
  refine Go.callV (M2 := m_F_splitScript) (a := a0) (as := [.int x1, .long y2]) (rest := []) (v := some (.long v2.1)) (h1 := v2.2) (x_F_splitScript hf hI k0 e3) wv_F_298 k0 kc_7 (by decide +kernel) rfl rfl ⟨⟨Nat.le_of_ble_eq_true rfl, Nat.le_of_ble_eq_true rfl⟩, ⟨Nat.zero_le _, Nat.zero_le _⟩⟩ (Nat.le_of_ble_eq_true rfl) ?_
  show Go l D ad aC _ _ m_F_runScript 29 [some (.ref a0), some (.int x1), some (.long y2), none, none] [.long v2.1] v2.2 0 0
  refine Go.run (pc' := 31) [.lconst 0, .lcmp] (ls' := [some (.ref a0), some (.int x1), some (.long y2), none, none]) (st' := [.int (lg_cmp v2.1 (0 : Int64))]) (by decide +kernel) rfl rfl ?_
  refine Go.if_ne (off := 7) (tgt := 38) (by decide +kernel) (by decide) (fun c4 => ?_) (fun c4 => ?_)
  · replace e := ite_f c4 e
    refine Go.run (pc' := 39) [.iconst 0] (ls' := [some (.ref a0), some (.int x1), some (.long y2), none, none]) (st' := [.int (0 : Int32)]) (by decide +kernel) rfl rfl ?_
    refine Go.wk' (wks (wks (wkn (wks (wks wk0))))) ?_
    exact x_F_runScript_39 hf hI k0 e
  · replace e := ite_t c4 e
    refine Go.run (pc' := 35) [.iconst 1] (ls' := [some (.ref a0), some (.int x1), some (.long y2), none, none]) (st' := [.int (1 : Int32)]) (by decide +kernel) rfl rfl ?_
    refine Go.goto (off := 4) (tgt := 39) (by decide +kernel) (by decide) ?_
    refine Go.wk' (wks (wks (wkn (wks (wks wk0))))) ?_
    exact x_F_runScript_39 hf hI k0 e
def f_F_runScript_19  (a0 : Nat) (x1 : Int32) (y2 : Int64) (h : HP) : Option (Res × HP) :=
  f_F_runScript_20 a0 x1 y2 (0 : Int32) h
set_option maxHeartbeats 1000000 in
theorem x_F_runScript_19 {l : Launch} {D : va_G} {ad : Nat → Nat} {aC : Nat → ClassId} (hf : l.flags = flags0) (hI : Inj ad) {a0 : Nat} {x1 : Int32} {y2 : Int64} {h : HP} {r : Res × HP} (k0 : knd a0 = 7) (e : f_F_runScript_19 a0 x1 y2 h = some r) : Go l D ad aC (rmk (mr m_F_runScript r.1)) (QM D ad aC (mr m_F_runScript r.1) r.1 r.2) m_F_runScript 19 [some (.ref a0), some (.int x1), some (.long y2), none, none] [] h 0 0 := by
  unfold f_F_runScript_19 at e
  refine Go.run (pc' := 20) [.iconst 0] (ls' := [some (.ref a0), some (.int x1), some (.long y2), none, none]) (st' := [.int (0 : Int32)]) (by decide +kernel) rfl rfl ?_
  exact x_F_runScript_20 hf hI k0 e
def f_F_runScript (h : HP) (a0 : Nat) (x1 : Int32) (y2 : Int64) : Option (Res × HP) :=
  (f_F_inRange h x1 (1 : Int32) (3 : Int32)).bind fun v1 =>
  if v1 = 0 then
    f_F_runScript_19 a0 x1 y2 h
  else
    if (lg_cmp y2 (0 : Int64)) < 0 then
      f_F_runScript_19 a0 x1 y2 h
    else
      f_F_runScript_20 a0 x1 y2 (1 : Int32) h
set_option maxHeartbeats 1000000 in
theorem x_F_runScript {l : Launch} {D : va_G} {ad : Nat → Nat} {aC : Nat → ClassId} (hf : l.flags = flags0) (hI : Inj ad) {h : HP} {a0 : Nat} {x1 : Int32} {y2 : Int64} {r : Res × HP} (k0 : knd a0 = 7) (e : f_F_runScript h a0 x1 y2 = some r) : CT l D ad aC (mr m_F_runScript r.1) [.ref a0, .int x1, .long y2] h r.1 r.2 := by
  refine CT.ofGoR (by decide +kernel) rfl (Nat.le_of_ble_eq_true rfl) ?_
  unfold f_F_runScript at e
  show Go l D ad aC _ _ m_F_runScript 0 [some (.ref a0), some (.int x1), some (.long y2), none, none] [] h 0 0
  refine Go.run (pc' := 3) [.iload_n 1, .iconst 1, .iconst 3] (ls' := [some (.ref a0), some (.int x1), some (.long y2), none, none]) (st' := [.int (3 : Int32), .int (1 : Int32), .int x1]) (by decide +kernel) rfl rfl ?_
  obtain ⟨v1, e2, e⟩ := bd_inv e
  refine Go.callS (M2 := m_F_inRange) (as := [.int x1, .int (1 : Int32), .int (3 : Int32)]) (rest := []) (v := some (.int v1)) (h1 := h) (x_F_inRange hf hI  e2) ws_F_44 (by decide +kernel) rfl rfl ⟨⟨Nat.le_of_ble_eq_true rfl, Nat.le_of_ble_eq_true rfl⟩, ⟨Nat.zero_le _, Nat.zero_le _⟩⟩ (Nat.le_of_ble_eq_true rfl) ?_
  show Go l D ad aC _ _ m_F_runScript 6 [some (.ref a0), some (.int x1), some (.long y2), none, none] [.int v1] h 0 0
  refine Go.if_eq (off := 13) (tgt := 19) (by decide +kernel) (by decide) (fun c3 => ?_) (fun c3 => ?_)
  · replace e := ite_t c3 e
    exact x_F_runScript_19 hf hI k0 e
  · replace e := ite_f c3 e
    refine Go.run (pc' := 12) [.lload_n 2, .lconst 0, .lcmp] (ls' := [some (.ref a0), some (.int x1), some (.long y2), none, none]) (st' := [.int (lg_cmp y2 (0 : Int64))]) (by decide +kernel) rfl rfl ?_
    refine Go.if_lt (off := 7) (tgt := 19) (by decide +kernel) (by decide) (fun c4 => ?_) (fun c4 => ?_)
    · replace e := ite_t c4 e
      exact x_F_runScript_19 hf hI k0 e
    · replace e := ite_f c4 e
      refine Go.run (pc' := 16) [.iconst 1] (ls' := [some (.ref a0), some (.int x1), some (.long y2), none, none]) (st' := [.int (1 : Int32)]) (by decide +kernel) rfl rfl ?_
      refine Go.goto (off := 4) (tgt := 20) (by decide +kernel) (by decide) ?_
      exact x_F_runScript_20 hf hI k0 e
def f_F_simulate_30  : Nat → Nat → Int32 → Int64 → Int32 → HP → Option (Res × HP)
  | 0, _, _, _, _, _ => none
  | n + 1, a0, x3, y4, x6, h =>
    if x3 ≤ x6 then
      (f_A_rents h (fld a0 1)).bind fun v2 =>
      (f_A_standing h (fld a0 1)).bind fun v4 =>
      some (.inl (some (.int ((((1000 : Int32) * v2) + ((10 : Int32) * v4)) + (h (fld (fld a0 1) 0) 9)))), h)
    else
      (f_C_takeTurn h (fld a0 1) (((((y4 * (6364136223846793005 : Int64)) + (1442695040888963407 : Int64)).toUInt64 >>> ((33 : Int32).toInt64.toUInt64 &&& Int64.toUInt64 63)).toInt64).toInt32)).bind fun v6 =>
      f_F_simulate_30 n a0 x3 ((y4 * (6364136223846793005 : Int64)) + (1442695040888963407 : Int64)) (x6 + (1 : Int32)) v6
set_option maxHeartbeats 1000000 in
theorem x_F_simulate_30 {l : Launch} {D : va_G} {ad : Nat → Nat} {aC : Nat → ClassId} (hf : l.flags = flags0) (hI : Inj ad) : ∀ (n : Nat) {a0 : Nat} {x3 : Int32} {y4 : Int64} {x6 : Int32} {h : HP} {r : Res × HP}, knd a0 = 7 → f_F_simulate_30 n a0 x3 y4 x6 h = some r → Go l D ad aC (rmk (mr m_F_simulate r.1)) (QM D ad aC (mr m_F_simulate r.1) r.1 r.2) m_F_simulate 30 [some (.ref a0), none, none, some (.int x3), some (.long y4), none, some (.int x6)] [] h 0 0 := by
  intro n
  induction n with
  | zero => intro a0 x3 y4 x6 h r k0 e; exact no_none e
  | succ n ih =>
    intro a0 x3 y4 x6 h r k0 e
    rw [f_F_simulate_30] at e
    refine Go.run (pc' := 33) [.iload 6, .iload_n 3] (ls' := [some (.ref a0), none, none, some (.int x3), some (.long y4), none, some (.int x6)]) (st' := [.int x3, .int x6]) (by decide +kernel) rfl rfl ?_
    refine Go.ic_ge (off := 34) (tgt := 67) (by decide +kernel) (by decide) (fun c1 => ?_) (fun c1 => ?_)
    · replace e := ite_t c1 e
      refine Go.run (pc' := 71) [.sipush (1000), .aload_n 0] (ls' := [some (.ref a0), none, none, some (.int x3), some (.long y4), none, some (.int x6)]) (st' := [.ref a0, .int (1000 : Int32)]) (by decide +kernel) rfl rfl ?_
      refine Go.getR fo_F_16 k0 (by decide +kernel) ?_
      obtain ⟨v2, e3, e⟩ := bd_inv e
      refine Go.callV (M2 := m_A_rents) (a := (fld a0 1)) (as := []) (rest := [.int (1000 : Int32)]) (v := some (.int v2)) (h1 := h) (x_A_rents hf hI (kf_7_1 k0) e3) wv_F_120 (kf_7_1 k0) kc_1 (by decide +kernel) rfl rfl ⟨⟨Nat.le_of_ble_eq_true rfl, Nat.le_of_ble_eq_true rfl⟩, ⟨Nat.zero_le _, Nat.zero_le _⟩⟩ (Nat.le_of_ble_eq_true rfl) ?_
      show Go l D ad aC _ _ m_F_simulate 77 [some (.ref a0), none, none, some (.int x3), some (.long y4), none, some (.int x6)] [.int v2, .int (1000 : Int32)] h 0 0
      refine Go.run (pc' := 81) [.imul, .bipush (10), .aload_n 0] (ls' := [some (.ref a0), none, none, some (.int x3), some (.long y4), none, some (.int x6)]) (st' := [.ref a0, .int (10 : Int32), .int ((1000 : Int32) * v2)]) (by decide +kernel) rfl rfl ?_
      refine Go.getR fo_F_16 k0 (by decide +kernel) ?_
      obtain ⟨v4, e5, e⟩ := bd_inv e
      refine Go.callV (M2 := m_A_standing) (a := (fld a0 1)) (as := []) (rest := [.int (10 : Int32), .int ((1000 : Int32) * v2)]) (v := some (.int v4)) (h1 := h) (x_A_standing hf hI (kf_7_1 k0) e5) wv_F_102 (kf_7_1 k0) kc_1 (by decide +kernel) rfl rfl ⟨⟨Nat.le_of_ble_eq_true rfl, Nat.le_of_ble_eq_true rfl⟩, ⟨Nat.zero_le _, Nat.zero_le _⟩⟩ (Nat.le_of_ble_eq_true rfl) ?_
      show Go l D ad aC _ _ m_F_simulate 87 [some (.ref a0), none, none, some (.int x3), some (.long y4), none, some (.int x6)] [.int v4, .int (10 : Int32), .int ((1000 : Int32) * v2)] h 0 0
      refine Go.run (pc' := 90) [.imul, .iadd, .aload_n 0] (ls' := [some (.ref a0), none, none, some (.int x3), some (.long y4), none, some (.int x6)]) (st' := [.ref a0, .int (((1000 : Int32) * v2) + ((10 : Int32) * v4))]) (by decide +kernel) rfl rfl ?_
      refine Go.getR fo_F_16 k0 (by decide +kernel) ?_
      refine Go.getR fo_F_89 (kf_7_1 k0) (by decide +kernel) ?_
      refine Go.getI fo_F_93 (kf_1_0 (kf_7_1 k0)) (by decide +kernel) ?_
      refine Go.run (pc' := 100) [.iadd] (ls' := [some (.ref a0), none, none, some (.int x3), some (.long y4), none, some (.int x6)]) (st' := [.int ((((1000 : Int32) * v2) + ((10 : Int32) * v4)) + (h (fld (fld a0 1) 0) 9))]) (by decide +kernel) rfl rfl ?_
      obtain rfl := Option.some.inj e
      exact Go.iret (M := m_F_simulate) rfl (by decide) (by decide) (by decide +kernel)
    · replace e := ite_f c1 e
      refine Go.run (pc' := 38) [.lload 4] (ls' := [some (.ref a0), none, none, some (.int x3), some (.long y4), none, some (.int x6)]) (st' := [.long y4]) (by decide +kernel) rfl rfl ?_
      refine Go.ldc2 lo_F_306 (by decide +kernel) ?_
      refine Go.run (pc' := 42) [.lmul] (ls' := [some (.ref a0), none, none, some (.int x3), some (.long y4), none, some (.int x6)]) (st' := [.long (y4 * (6364136223846793005 : Int64))]) (by decide +kernel) rfl rfl ?_
      refine Go.ldc2 lo_F_308 (by decide +kernel) ?_
      refine Go.run (pc' := 49) [.ladd, .lstore 4, .aload_n 0] (ls' := [some (.ref a0), none, none, some (.int x3), some (.long ((y4 * (6364136223846793005 : Int64)) + (1442695040888963407 : Int64))), none, some (.int x6)]) (st' := [.ref a0]) (by decide +kernel) rfl rfl ?_
      refine Go.getR fo_F_16 k0 (by decide +kernel) ?_
      refine Go.run (pc' := 58) [.lload 4, .bipush (33), .lushr, .l2i] (ls' := [some (.ref a0), none, none, some (.int x3), some (.long ((y4 * (6364136223846793005 : Int64)) + (1442695040888963407 : Int64))), none, some (.int x6)]) (st' := [.int (((((y4 * (6364136223846793005 : Int64)) + (1442695040888963407 : Int64)).toUInt64 >>> ((33 : Int32).toInt64.toUInt64 &&& Int64.toUInt64 63)).toInt64).toInt32), .ref (fld a0 1)]) (by decide +kernel) rfl rfl ?_
      obtain ⟨v6, e7, e⟩ := bd_inv e
      refine Go.callS (M2 := m_C_takeTurn) (as := [.ref (fld a0 1), .int (((((y4 * (6364136223846793005 : Int64)) + (1442695040888963407 : Int64)).toUInt64 >>> ((33 : Int32).toInt64.toUInt64 &&& Int64.toUInt64 63)).toInt64).toInt32)]) (rest := []) (v := none) (h1 := v6) (x_C_takeTurn hf hI (kf_7_1 k0) e7) ws_F_310 (by decide +kernel) rfl rfl ⟨⟨Nat.le_of_ble_eq_true rfl, Nat.le_of_ble_eq_true rfl⟩, ⟨Nat.zero_le _, Nat.zero_le _⟩⟩ (Nat.le_of_ble_eq_true rfl) ?_
      show Go l D ad aC _ _ m_F_simulate 61 [some (.ref a0), none, none, some (.int x3), some (.long ((y4 * (6364136223846793005 : Int64)) + (1442695040888963407 : Int64))), none, some (.int x6)] [] v6 0 0
      refine Go.run (pc' := 64) [.iinc 6 (1)] (ls' := [some (.ref a0), none, none, some (.int x3), some (.long ((y4 * (6364136223846793005 : Int64)) + (1442695040888963407 : Int64))), none, some (.int (x6 + (1 : Int32)))]) (st' := []) (by decide +kernel) rfl rfl ?_
      refine Go.goto (off := -34) (tgt := 30) (by decide +kernel) (by decide) ?_
      exact ih k0 e
def f_F_simulate (h : HP) (a0 : Nat) (y1 : Int64) (x3 : Int32) : Option (Res × HP) :=
  (f_F_inRange h x3 (1 : Int32) (60 : Int32)).bind fun v1 =>
  if v1 = 0 then some (.inr "java/lang/IllegalArgumentException", h) else
  (f_A_become h (fld a0 1) (fld (fld a0 0) 0)).bind fun v4 =>
  f_F_simulate_30 4096 a0 x3 y1 (0 : Int32) v4
set_option maxHeartbeats 1000000 in
theorem x_F_simulate {l : Launch} {D : va_G} {ad : Nat → Nat} {aC : Nat → ClassId} (hf : l.flags = flags0) (hI : Inj ad) {h : HP} {a0 : Nat} {y1 : Int64} {x3 : Int32} {r : Res × HP} (k0 : knd a0 = 7) (e : f_F_simulate h a0 y1 x3 = some r) : CT l D ad aC (mr m_F_simulate r.1) [.ref a0, .long y1, .int x3] h r.1 r.2 := by
  refine CT.ofGoR (by decide +kernel) rfl (Nat.le_of_ble_eq_true rfl) ?_
  unfold f_F_simulate at e
  show Go l D ad aC _ _ m_F_simulate 0 [some (.ref a0), some (.long y1), none, some (.int x3), none, none, none] [] h 0 0
  refine Go.run (pc' := 4) [.iload_n 3, .iconst 1, .bipush (60)] (ls' := [some (.ref a0), some (.long y1), none, some (.int x3), none, none, none]) (st' := [.int (60 : Int32), .int (1 : Int32), .int x3]) (by decide +kernel) rfl rfl ?_
  obtain ⟨v1, e2, e⟩ := bd_inv e
  refine Go.callS (M2 := m_F_inRange) (as := [.int x3, .int (1 : Int32), .int (60 : Int32)]) (rest := []) (v := some (.int v1)) (h1 := h) (x_F_inRange hf hI  e2) ws_F_44 (by decide +kernel) rfl rfl ⟨⟨Nat.le_of_ble_eq_true rfl, Nat.le_of_ble_eq_true rfl⟩, ⟨Nat.zero_le _, Nat.zero_le _⟩⟩ (Nat.le_of_ble_eq_true rfl) ?_
  show Go l D ad aC _ _ m_F_simulate 7 [some (.ref a0), some (.long y1), none, some (.int x3), none, none, none] [.int v1] h 0 0
  rcases Decidable.em (v1 = 0) with c3 | c3
  · replace e := ite_t c3 e
    obtain rfl := Option.some.inj e
    exact Go.mr (res := .inr "java/lang/IllegalArgumentException") (Go.thrown (M := mr m_F_simulate (.inr "java/lang/IllegalArgumentException")) (M2 := mr m_F_needArgument (.inr "java/lang/IllegalArgumentException")) (as := [.int v1]) (rest := []) (h1 := h) (by have q := x_F_needArgument (l := l) (D := D) (ad := ad) (aC := aC) hf (h := h) (b := v1); rw [if_pos c3] at q; exact q) (WS.mr ws_F_48) (by decide +kernel) rfl rfl ⟨⟨Nat.le_of_ble_eq_true rfl, Nat.le_of_ble_eq_true rfl⟩, ⟨Nat.le_of_ble_eq_true rfl, Nat.le_of_ble_eq_true rfl⟩⟩ (Nat.le_of_ble_eq_true rfl) rfl (by decide) (by decide) (by decide))
  replace e := ite_f c3 e
  refine Go.callS (M2 := mr m_F_needArgument (.inl none)) (as := [.int v1]) (rest := []) (v := none) (h1 := h) (by have q := x_F_needArgument (l := l) (D := D) (ad := ad) (aC := aC) hf (h := h) (b := v1); rw [if_neg c3] at q; exact q) (WS.mr ws_F_48) (by decide +kernel) rfl rfl ⟨⟨Nat.le_of_ble_eq_true rfl, Nat.le_of_ble_eq_true rfl⟩, ⟨Nat.zero_le _, Nat.zero_le _⟩⟩ (Nat.le_of_ble_eq_true rfl) ?_
  show Go l D ad aC _ _ m_F_simulate 10 [some (.ref a0), some (.long y1), none, some (.int x3), none, none, none] [] h 0 0
  refine Go.run (pc' := 11) [.aload_n 0] (ls' := [some (.ref a0), some (.long y1), none, some (.int x3), none, none, none]) (st' := [.ref a0]) (by decide +kernel) rfl rfl ?_
  refine Go.getR fo_F_16 k0 (by decide +kernel) ?_
  refine Go.run (pc' := 15) [.aload_n 0] (ls' := [some (.ref a0), some (.long y1), none, some (.int x3), none, none, none]) (st' := [.ref a0, .ref (fld a0 1)]) (by decide +kernel) rfl rfl ?_
  refine Go.getR fo_F_10 k0 (by decide +kernel) ?_
  refine Go.getR fo_F_89 (kf_7_0 k0) (by decide +kernel) ?_
  obtain ⟨v4, e5, e⟩ := bd_inv e
  refine Go.callV (M2 := m_A_become) (a := (fld a0 1)) (as := [.ref (fld (fld a0 0) 0)]) (rest := []) (v := none) (h1 := v4) (x_A_become hf hI (kf_7_1 k0) (kf_1_0 (kf_7_0 k0)) e5) wv_F_286 (kf_7_1 k0) kc_1 (by decide +kernel) rfl rfl ⟨⟨Nat.le_of_ble_eq_true rfl, Nat.le_of_ble_eq_true rfl⟩, ⟨Nat.zero_le _, Nat.zero_le _⟩⟩ (Nat.le_of_ble_eq_true rfl) ?_
  show Go l D ad aC _ _ m_F_simulate 24 [some (.ref a0), some (.long y1), none, some (.int x3), none, none, none] [] v4 0 0
  refine Go.run (pc' := 30) [.lload_n 1, .lstore 4, .iconst 0, .istore 6] (ls' := [some (.ref a0), some (.long y1), none, some (.int x3), some (.long y1), none, some (.int (0 : Int32))]) (st' := []) (by decide +kernel) rfl rfl ?_
  refine Go.wk' (wks (wkn (wks (wks (wks (wks (wks wk0))))))) ?_
  exact x_F_simulate_30 hf hI 4096 k0 e
def f_F_save (h : HP) (a0 : Nat) (x1 : Int32) : Option (Res × HP) :=
  (f_F_inRange h x1 (0 : Int32) (1 : Int32)).bind fun v1 =>
  if v1 = 0 then some (.inr "java/lang/IndexOutOfBoundsException", h) else
  (f_L_keep h (fld a0 3) x1 (fld (fld a0 0) 0)).bind fun v4 =>
  some (.inl (some (.int (v4 (fld (fld a0 0) 0) 11))), v4)
set_option maxHeartbeats 1000000 in
theorem x_F_save {l : Launch} {D : va_G} {ad : Nat → Nat} {aC : Nat → ClassId} (hf : l.flags = flags0) (hI : Inj ad) {h : HP} {a0 : Nat} {x1 : Int32} {r : Res × HP} (k0 : knd a0 = 7) (e : f_F_save h a0 x1 = some r) : CT l D ad aC (mr m_F_save r.1) [.ref a0, .int x1] h r.1 r.2 := by
  refine CT.ofGoR (by decide +kernel) rfl (Nat.le_of_ble_eq_true rfl) ?_
  unfold f_F_save at e
  show Go l D ad aC _ _ m_F_save 0 [some (.ref a0), some (.int x1)] [] h 0 0
  refine Go.run (pc' := 3) [.iload_n 1, .iconst 0, .iconst 1] (ls' := [some (.ref a0), some (.int x1)]) (st' := [.int (1 : Int32), .int (0 : Int32), .int x1]) (by decide +kernel) rfl rfl ?_
  obtain ⟨v1, e2, e⟩ := bd_inv e
  refine Go.callS (M2 := m_F_inRange) (as := [.int x1, .int (0 : Int32), .int (1 : Int32)]) (rest := []) (v := some (.int v1)) (h1 := h) (x_F_inRange hf hI  e2) ws_F_44 (by decide +kernel) rfl rfl ⟨⟨Nat.le_of_ble_eq_true rfl, Nat.le_of_ble_eq_true rfl⟩, ⟨Nat.zero_le _, Nat.zero_le _⟩⟩ (Nat.le_of_ble_eq_true rfl) ?_
  show Go l D ad aC _ _ m_F_save 6 [some (.ref a0), some (.int x1)] [.int v1] h 0 0
  rcases Decidable.em (v1 = 0) with c3 | c3
  · replace e := ite_t c3 e
    obtain rfl := Option.some.inj e
    exact Go.mr (res := .inr "java/lang/IndexOutOfBoundsException") (Go.thrown (M := mr m_F_save (.inr "java/lang/IndexOutOfBoundsException")) (M2 := mr m_F_needExists (.inr "java/lang/IndexOutOfBoundsException")) (as := [.int v1]) (rest := []) (h1 := h) (by have q := x_F_needExists (l := l) (D := D) (ad := ad) (aC := aC) hf (h := h) (b := v1); rw [if_pos c3] at q; exact q) (WS.mr ws_F_142) (by decide +kernel) rfl rfl ⟨⟨Nat.le_of_ble_eq_true rfl, Nat.le_of_ble_eq_true rfl⟩, ⟨Nat.le_of_ble_eq_true rfl, Nat.le_of_ble_eq_true rfl⟩⟩ (Nat.le_of_ble_eq_true rfl) rfl (by decide) (by decide) (by decide))
  replace e := ite_f c3 e
  refine Go.callS (M2 := mr m_F_needExists (.inl none)) (as := [.int v1]) (rest := []) (v := none) (h1 := h) (by have q := x_F_needExists (l := l) (D := D) (ad := ad) (aC := aC) hf (h := h) (b := v1); rw [if_neg c3] at q; exact q) (WS.mr ws_F_142) (by decide +kernel) rfl rfl ⟨⟨Nat.le_of_ble_eq_true rfl, Nat.le_of_ble_eq_true rfl⟩, ⟨Nat.zero_le _, Nat.zero_le _⟩⟩ (Nat.le_of_ble_eq_true rfl) ?_
  show Go l D ad aC _ _ m_F_save 9 [some (.ref a0), some (.int x1)] [] h 0 0
  refine Go.run (pc' := 10) [.aload_n 0] (ls' := [some (.ref a0), some (.int x1)]) (st' := [.ref a0]) (by decide +kernel) rfl rfl ?_
  refine Go.getR fo_F_29 k0 (by decide +kernel) ?_
  refine Go.run (pc' := 15) [.iload_n 1, .aload_n 0] (ls' := [some (.ref a0), some (.int x1)]) (st' := [.ref a0, .int x1, .ref (fld a0 3)]) (by decide +kernel) rfl rfl ?_
  refine Go.getR fo_F_10 k0 (by decide +kernel) ?_
  refine Go.getR fo_F_89 (kf_7_0 k0) (by decide +kernel) ?_
  obtain ⟨v4, e5, e⟩ := bd_inv e
  refine Go.callV (M2 := m_L_keep) (a := (fld a0 3)) (as := [.int x1, .ref (fld (fld a0 0) 0)]) (rest := []) (v := none) (h1 := v4) (x_L_keep hf hI (kf_7_3 k0) (kf_1_0 (kf_7_0 k0)) e5) wv_F_314 (kf_7_3 k0) kc_5 (by decide +kernel) rfl rfl ⟨⟨Nat.le_of_ble_eq_true rfl, Nat.le_of_ble_eq_true rfl⟩, ⟨Nat.zero_le _, Nat.zero_le _⟩⟩ (Nat.le_of_ble_eq_true rfl) ?_
  show Go l D ad aC _ _ m_F_save 24 [some (.ref a0), some (.int x1)] [] v4 0 0
  refine Go.run (pc' := 25) [.aload_n 0] (ls' := [some (.ref a0), some (.int x1)]) (st' := [.ref a0]) (by decide +kernel) rfl rfl ?_
  refine Go.getR fo_F_10 k0 (by decide +kernel) ?_
  refine Go.getR fo_F_89 (kf_7_0 k0) (by decide +kernel) ?_
  refine Go.getI fo_F_126 (kf_1_0 (kf_7_0 k0)) (by decide +kernel) ?_
  obtain rfl := Option.some.inj e
  exact Go.iret (M := m_F_save) rfl (by decide) (by decide) (by decide +kernel)
def f_F_restore (h : HP) (a0 : Nat) (x1 : Int32) : Option (Res × HP) :=
  (f_F_inRange h x1 (0 : Int32) (1 : Int32)).bind fun v1 =>
  if v1 = 0 then some (.inr "java/lang/IndexOutOfBoundsException", h) else
  (f_L_isFilled h (fld a0 3) x1).bind fun v4 =>
  if v4 = 0 then some (.inr "java/lang/IllegalStateException", h) else
  (f_L_kept h (fld a0 3) x1).bind fun v7 =>
  if knd v7 = 6 then
  (f_A_become h (fld a0 0) v7).bind fun v10 =>
  (f_P_forget v10 (fld a0 2)).bind fun v12 =>
  some (.inl (some (.int (v12 (fld (fld a0 0) 0) 11))), v12)
  else none
set_option maxHeartbeats 1000000 in
theorem x_F_restore {l : Launch} {D : va_G} {ad : Nat → Nat} {aC : Nat → ClassId} (hf : l.flags = flags0) (hI : Inj ad) {h : HP} {a0 : Nat} {x1 : Int32} {r : Res × HP} (k0 : knd a0 = 7) (e : f_F_restore h a0 x1 = some r) : CT l D ad aC (mr m_F_restore r.1) [.ref a0, .int x1] h r.1 r.2 := by
  refine CT.ofGoR (by decide +kernel) rfl (Nat.le_of_ble_eq_true rfl) ?_
  unfold f_F_restore at e
  show Go l D ad aC _ _ m_F_restore 0 [some (.ref a0), some (.int x1)] [] h 0 0
  refine Go.run (pc' := 3) [.iload_n 1, .iconst 0, .iconst 1] (ls' := [some (.ref a0), some (.int x1)]) (st' := [.int (1 : Int32), .int (0 : Int32), .int x1]) (by decide +kernel) rfl rfl ?_
  obtain ⟨v1, e2, e⟩ := bd_inv e
  refine Go.callS (M2 := m_F_inRange) (as := [.int x1, .int (0 : Int32), .int (1 : Int32)]) (rest := []) (v := some (.int v1)) (h1 := h) (x_F_inRange hf hI  e2) ws_F_44 (by decide +kernel) rfl rfl ⟨⟨Nat.le_of_ble_eq_true rfl, Nat.le_of_ble_eq_true rfl⟩, ⟨Nat.zero_le _, Nat.zero_le _⟩⟩ (Nat.le_of_ble_eq_true rfl) ?_
  show Go l D ad aC _ _ m_F_restore 6 [some (.ref a0), some (.int x1)] [.int v1] h 0 0
  rcases Decidable.em (v1 = 0) with c3 | c3
  · replace e := ite_t c3 e
    obtain rfl := Option.some.inj e
    exact Go.mr (res := .inr "java/lang/IndexOutOfBoundsException") (Go.thrown (M := mr m_F_restore (.inr "java/lang/IndexOutOfBoundsException")) (M2 := mr m_F_needExists (.inr "java/lang/IndexOutOfBoundsException")) (as := [.int v1]) (rest := []) (h1 := h) (by have q := x_F_needExists (l := l) (D := D) (ad := ad) (aC := aC) hf (h := h) (b := v1); rw [if_pos c3] at q; exact q) (WS.mr ws_F_142) (by decide +kernel) rfl rfl ⟨⟨Nat.le_of_ble_eq_true rfl, Nat.le_of_ble_eq_true rfl⟩, ⟨Nat.le_of_ble_eq_true rfl, Nat.le_of_ble_eq_true rfl⟩⟩ (Nat.le_of_ble_eq_true rfl) rfl (by decide) (by decide) (by decide))
  replace e := ite_f c3 e
  refine Go.callS (M2 := mr m_F_needExists (.inl none)) (as := [.int v1]) (rest := []) (v := none) (h1 := h) (by have q := x_F_needExists (l := l) (D := D) (ad := ad) (aC := aC) hf (h := h) (b := v1); rw [if_neg c3] at q; exact q) (WS.mr ws_F_142) (by decide +kernel) rfl rfl ⟨⟨Nat.le_of_ble_eq_true rfl, Nat.le_of_ble_eq_true rfl⟩, ⟨Nat.zero_le _, Nat.zero_le _⟩⟩ (Nat.le_of_ble_eq_true rfl) ?_
  show Go l D ad aC _ _ m_F_restore 9 [some (.ref a0), some (.int x1)] [] h 0 0
  refine Go.run (pc' := 10) [.aload_n 0] (ls' := [some (.ref a0), some (.int x1)]) (st' := [.ref a0]) (by decide +kernel) rfl rfl ?_
  refine Go.getR fo_F_29 k0 (by decide +kernel) ?_
  refine Go.run (pc' := 14) [.iload_n 1] (ls' := [some (.ref a0), some (.int x1)]) (st' := [.int x1, .ref (fld a0 3)]) (by decide +kernel) rfl rfl ?_
  obtain ⟨v4, e5, e⟩ := bd_inv e
  refine Go.callV (M2 := m_L_isFilled) (a := (fld a0 3)) (as := [.int x1]) (rest := []) (v := some (.int v4)) (h1 := h) (x_L_isFilled hf hI (kf_7_3 k0) e5) wv_F_318 (kf_7_3 k0) kc_5 (by decide +kernel) rfl rfl ⟨⟨Nat.le_of_ble_eq_true rfl, Nat.le_of_ble_eq_true rfl⟩, ⟨Nat.zero_le _, Nat.zero_le _⟩⟩ (Nat.le_of_ble_eq_true rfl) ?_
  show Go l D ad aC _ _ m_F_restore 17 [some (.ref a0), some (.int x1)] [.int v4] h 0 0
  rcases Decidable.em (v4 = 0) with c6 | c6
  · replace e := ite_t c6 e
    obtain rfl := Option.some.inj e
    exact Go.mr (res := .inr "java/lang/IllegalStateException") (Go.thrown (M := mr m_F_restore (.inr "java/lang/IllegalStateException")) (M2 := mr m_F_needState (.inr "java/lang/IllegalStateException")) (as := [.int v4]) (rest := []) (h1 := h) (by have q := x_F_needState (l := l) (D := D) (ad := ad) (aC := aC) hf (h := h) (b := v4); rw [if_pos c6] at q; exact q) (WS.mr ws_F_56) (by decide +kernel) rfl rfl ⟨⟨Nat.le_of_ble_eq_true rfl, Nat.le_of_ble_eq_true rfl⟩, ⟨Nat.le_of_ble_eq_true rfl, Nat.le_of_ble_eq_true rfl⟩⟩ (Nat.le_of_ble_eq_true rfl) rfl (by decide) (by decide) (by decide))
  replace e := ite_f c6 e
  refine Go.callS (M2 := mr m_F_needState (.inl none)) (as := [.int v4]) (rest := []) (v := none) (h1 := h) (by have q := x_F_needState (l := l) (D := D) (ad := ad) (aC := aC) hf (h := h) (b := v4); rw [if_neg c6] at q; exact q) (WS.mr ws_F_56) (by decide +kernel) rfl rfl ⟨⟨Nat.le_of_ble_eq_true rfl, Nat.le_of_ble_eq_true rfl⟩, ⟨Nat.zero_le _, Nat.zero_le _⟩⟩ (Nat.le_of_ble_eq_true rfl) ?_
  show Go l D ad aC _ _ m_F_restore 20 [some (.ref a0), some (.int x1)] [] h 0 0
  refine Go.run (pc' := 21) [.aload_n 0] (ls' := [some (.ref a0), some (.int x1)]) (st' := [.ref a0]) (by decide +kernel) rfl rfl ?_
  refine Go.getR fo_F_10 k0 (by decide +kernel) ?_
  refine Go.run (pc' := 25) [.aload_n 0] (ls' := [some (.ref a0), some (.int x1)]) (st' := [.ref a0, .ref (fld a0 0)]) (by decide +kernel) rfl rfl ?_
  refine Go.getR fo_F_29 k0 (by decide +kernel) ?_
  refine Go.run (pc' := 29) [.iload_n 1] (ls' := [some (.ref a0), some (.int x1)]) (st' := [.int x1, .ref (fld a0 3), .ref (fld a0 0)]) (by decide +kernel) rfl rfl ?_
  obtain ⟨v7, e8, e⟩ := bd_inv e
  refine Go.callV (M2 := m_L_kept) (a := (fld a0 3)) (as := [.int x1]) (rest := [.ref (fld a0 0)]) (v := some (.ref v7)) (h1 := h) (x_L_kept hf hI (kf_7_3 k0) e8) wv_F_321 (kf_7_3 k0) kc_5 (by decide +kernel) rfl rfl ⟨⟨Nat.le_of_ble_eq_true rfl, Nat.le_of_ble_eq_true rfl⟩, ⟨Nat.zero_le _, Nat.zero_le _⟩⟩ (Nat.le_of_ble_eq_true rfl) ?_
  show Go l D ad aC _ _ m_F_restore 32 [some (.ref a0), some (.int x1)] [.ref v7, .ref (fld a0 0)] h 0 0
  obtain ⟨g9, e⟩ := gd_inv e
  obtain ⟨v10, e11, e⟩ := bd_inv e
  refine Go.callV (M2 := m_A_become) (a := (fld a0 0)) (as := [.ref v7]) (rest := []) (v := none) (h1 := v10) (x_A_become hf hI (kf_7_0 k0) g9 e11) wv_F_286 (kf_7_0 k0) kc_1 (by decide +kernel) rfl rfl ⟨⟨Nat.le_of_ble_eq_true rfl, Nat.le_of_ble_eq_true rfl⟩, ⟨Nat.zero_le _, Nat.zero_le _⟩⟩ (Nat.le_of_ble_eq_true rfl) ?_
  show Go l D ad aC _ _ m_F_restore 35 [some (.ref a0), some (.int x1)] [] v10 0 0
  refine Go.run (pc' := 36) [.aload_n 0] (ls' := [some (.ref a0), some (.int x1)]) (st' := [.ref a0]) (by decide +kernel) rfl rfl ?_
  refine Go.getR fo_F_22 k0 (by decide +kernel) ?_
  obtain ⟨v12, e13, e⟩ := bd_inv e
  refine Go.callV (M2 := m_P_forget) (a := (fld a0 2)) (as := []) (rest := []) (v := none) (h1 := v12) (x_P_forget hf hI (kf_7_2 k0) e13) wv_F_72 (kf_7_2 k0) kc_3 (by decide +kernel) rfl rfl ⟨⟨Nat.le_of_ble_eq_true rfl, Nat.le_of_ble_eq_true rfl⟩, ⟨Nat.zero_le _, Nat.zero_le _⟩⟩ (Nat.le_of_ble_eq_true rfl) ?_
  show Go l D ad aC _ _ m_F_restore 42 [some (.ref a0), some (.int x1)] [] v12 0 0
  refine Go.run (pc' := 43) [.aload_n 0] (ls' := [some (.ref a0), some (.int x1)]) (st' := [.ref a0]) (by decide +kernel) rfl rfl ?_
  refine Go.getR fo_F_10 k0 (by decide +kernel) ?_
  refine Go.getR fo_F_89 (kf_7_0 k0) (by decide +kernel) ?_
  refine Go.getI fo_F_126 (kf_1_0 (kf_7_0 k0)) (by decide +kernel) ?_
  obtain rfl := Option.some.inj e
  exact Go.iret (M := m_F_restore) rfl (by decide) (by decide) (by decide +kernel)
