/-! the law's wrappers: an answer goes into out, an exception becomes a number -/
theorem ca_IllegalArgumentException : Cond.castable "java/lang/IllegalArgumentException" "java/lang/IllegalArgumentException" ∈ NWs := nwt 377 (by decide +kernel) (by decide +kernel)
theorem ca_IllegalStateException : Cond.castable "java/lang/IllegalStateException" "java/lang/IllegalStateException" ∈ NWs := nwt 451 (by decide +kernel) (by decide +kernel)
theorem ca_IndexOutOfBoundsException : Cond.castable "java/lang/IndexOutOfBoundsException" "java/lang/IndexOutOfBoundsException" ∈ NWs := nwt 709 (by decide +kernel) (by decide +kernel)
theorem cl_IndexOutOfBoundsException : Cond.classLink "FairWallsLaw" 28 "java/lang/IndexOutOfBoundsException" ∈ GT := gtb 698 (by decide +kernel) (by decide +kernel)
theorem cl_IllegalArgumentException : Cond.classLink "FairWallsLaw" 13 "java/lang/IllegalArgumentException" ∈ GT := gtb 363 (by decide +kernel) (by decide +kernel)
theorem cl_IllegalStateException : Cond.classLink "FairWallsLaw" 15 "java/lang/IllegalStateException" ∈ GT := gtb 364 (by decide +kernel) (by decide +kernel)
def m_Q_append : MI := (⟨"FairWallsLaw", "append", "(LFairWalls;I[J)I"⟩, method_3_code, 4, (some .int), 9, 2, [(0, 9, 12, 13), (0, 9, 15, 15)])
theorem cw_Q_append : codeW m_Q_append ∈ GT := gtb 362 (by decide +kernel) (by decide +kernel)
theorem sw_Q_append : Cond.static m_Q_append.y ∈ GT := gtb 361 (by decide +kernel) (by decide +kernel)
theorem wv_Q_append : WV "FairWallsLaw" 7 m_F_append 1 := ⟨⟨gtb 365 (by decide +kernel) (by decide +kernel), iw_F_append, cw_F_append, rfl, by decide +kernel, by decide +kernel⟩, nw_F_append, vw_F_append⟩
def f_Q_append (h : HP) (a0 : Nat) (x1 : Int32) (a2 : Nat) : Option (Int32 × HP) := (f_F_append h a0 x1).bind (wrapR ["java/lang/IllegalArgumentException", "java/lang/IllegalStateException"] a2)
set_option maxHeartbeats 1000000 in
theorem x_Q_append {l : Launch} {D : va_G} {ad : Nat → Nat} {aC : Nat → ClassId} (hf : l.flags = flags0) (hI : Inj ad) {h : HP} {a0 : Nat} {x1 : Int32} {a2 : Nat} {r : Int32 × HP} (k0 : knd a0 = 7) (ko : knd a2 = 13) (e : f_Q_append h a0 x1 a2 = some r) : CT l D ad aC m_Q_append [.ref a0, .int x1, .ref a2] h (.inl (some (.int r.1))) r.2 := by
  refine CT.ofGoH (by decide +kernel) rfl (Nat.le_of_ble_eq_true rfl) ?_
  unfold f_Q_append at e
  show Go l D ad aC (rmk m_Q_append) _ m_Q_append 0 [some (.ref a0), some (.int x1), some (.ref a2), none] [] h 0 0
  obtain ⟨⟨res, h1⟩, hr, e⟩ := bd_inv e
  have hct := x_F_append (l := l) (D := D) (ad := ad) (aC := aC) hf hI k0 hr
  refine Go.run (pc' := 4) [.aload_n 2, .iconst 0, .aload_n 0, .iload_n 1] (ls' := [some (.ref a0), some (.int x1), some (.ref a2), none]) (st' := [.int x1, .ref a0, .int 0, .ref a2]) (by decide +kernel) rfl rfl ?_
  cases res with
  | inl v =>
    cases v with
    | none => exact no_none e
    | some w =>
      cases w with
      | int w =>
        obtain rfl := Option.some.inj e
        refine Go.callV (M2 := m_F_append) (a := a0) (as := [.int x1]) (rest := [.int 0, .ref a2]) (h1 := h1) (v := some (.int w)) hct wv_Q_append k0 kc_7 (by decide +kernel) rfl rfl ⟨⟨Nat.le_of_ble_eq_true rfl, Nat.le_of_ble_eq_true rfl⟩, ⟨Nat.le_of_ble_eq_true rfl, Nat.le_of_ble_eq_true rfl⟩⟩ (Nat.le_of_ble_eq_true rfl) ?_
        refine Go.run (pc' := 8) [.i2l] (ls' := [some (.ref a0), some (.int x1), some (.ref a2), none]) (st' := [.long w.toInt64, .int 0, .ref a2]) (by decide +kernel) rfl rfl ?_
        refine Go.last hI ko (al_13 ko) (by decide) (by decide +kernel) ?_
        refine Go.goto (off := 9) (tgt := 18) (by decide +kernel) (by decide) ?_
        refine Go.run (pc' := 19) [.iconst 0] (ls' := [some (.ref a0), some (.int x1), some (.ref a2), none]) (st' := [.int 0]) (by decide +kernel) rfl rfl ?_
        exact Go.iret rfl (by decide) (by decide) (by decide +kernel)
      | long w => exact no_none e
      | float w => exact no_none e
      | double w => exact no_none e
      | null => exact no_none e
      | ref w => exact no_none e
      | retAddr w => exact no_none e
  | inr E =>
    unfold wrapR at e
    dsimp only at e
    rcases Decidable.em ((["java/lang/IllegalArgumentException", "java/lang/IllegalStateException"] : List String)[0]? = some E) with z0 | z0
    · replace e := ite_t z0 e
      obtain rfl : "java/lang/IllegalArgumentException" = E := Option.some.inj z0
      obtain rfl := Option.some.inj e
      refine Go.caught (M2 := m_F_append) (a := a0) (as := [.int x1]) (rest := [.int 0, .ref a2]) (h1 := h1) (j := 3) (len := 1) hct wv_Q_append k0 kc_7 (by decide +kernel) rfl rfl ⟨⟨Nat.le_of_ble_eq_true rfl, Nat.le_of_ble_eq_true rfl⟩, ⟨Nat.le_of_ble_eq_true rfl, Nat.le_of_ble_eq_true rfl⟩⟩ (Nat.le_of_ble_eq_true rfl) (by decide) [] ⟨0, 9, 12, 13⟩ [⟨0, 9, 15, 15⟩] rfl (fun z hz => nomatch hz) (by decide) (by decide) cl_IllegalArgumentException ca_IllegalArgumentException (Or.inr ⟨3, by decide +kernel, rfl, rfl⟩) rfl ?_
      refine Go.run (pc' := 14) [.iconst 1] (ls' := [some (.ref a0), some (.int x1), some (.ref a2), none]) (st' := [.int 1]) (by decide +kernel) rfl rfl ?_
      exact Go.iret rfl (by decide) (by decide) (by decide +kernel)
    replace e := ite_f z0 e
    rcases Decidable.em ((["java/lang/IllegalArgumentException", "java/lang/IllegalStateException"] : List String)[1]? = some E) with z1 | z1
    · replace e := ite_t z1 e
      obtain rfl : "java/lang/IllegalStateException" = E := Option.some.inj z1
      obtain rfl := Option.some.inj e
      refine Go.caught (M2 := m_F_append) (a := a0) (as := [.int x1]) (rest := [.int 0, .ref a2]) (h1 := h1) (j := 3) (len := 1) hct wv_Q_append k0 kc_7 (by decide +kernel) rfl rfl ⟨⟨Nat.le_of_ble_eq_true rfl, Nat.le_of_ble_eq_true rfl⟩, ⟨Nat.le_of_ble_eq_true rfl, Nat.le_of_ble_eq_true rfl⟩⟩ (Nat.le_of_ble_eq_true rfl) (by decide) [⟨0, 9, 12, 13⟩] ⟨0, 9, 15, 15⟩ [] rfl (fun z hz => by have e0 := List.mem_singleton.mp hz; subst e0; exact Or.inr ⟨by decide, "java/lang/IllegalArgumentException", cl_IllegalArgumentException, by decide⟩) (by decide) (by decide) cl_IllegalStateException ca_IllegalStateException (Or.inr ⟨3, by decide +kernel, rfl, rfl⟩) rfl ?_
      refine Go.run (pc' := 17) [.iconst 2] (ls' := [some (.ref a0), some (.int x1), some (.ref a2), none]) (st' := [.int 2]) (by decide +kernel) rfl rfl ?_
      exact Go.iret rfl (by decide) (by decide) (by decide +kernel)
    replace e := ite_f z1 e
    exact no_none e
def m_Q_load : MI := (⟨"FairWallsLaw", "load", "(LFairWalls;[J)I"⟩, method_4_code, 3, (some .int), 9, 1, [(0, 8, 11, 15)])
theorem cw_Q_load : codeW m_Q_load ∈ GT := gtb 471 (by decide +kernel) (by decide +kernel)
theorem sw_Q_load : Cond.static m_Q_load.y ∈ GT := gtb 470 (by decide +kernel) (by decide +kernel)
theorem wv_Q_load : WV "FairWallsLaw" 17 m_F_load 0 := ⟨⟨gtb 472 (by decide +kernel) (by decide +kernel), iw_F_load, cw_F_load, rfl, by decide +kernel, by decide +kernel⟩, nw_F_load, vw_F_load⟩
def f_Q_load (h : HP) (a0 : Nat) (a1 : Nat) : Option (Int32 × HP) := (f_F_load h a0).bind (wrapR ["java/lang/IllegalStateException"] a1)
set_option maxHeartbeats 1000000 in
theorem x_Q_load {l : Launch} {D : va_G} {ad : Nat → Nat} {aC : Nat → ClassId} (hf : l.flags = flags0) (hI : Inj ad) {h : HP} {a0 : Nat} {a1 : Nat} {r : Int32 × HP} (k0 : knd a0 = 7) (ko : knd a1 = 13) (e : f_Q_load h a0 a1 = some r) : CT l D ad aC m_Q_load [.ref a0, .ref a1] h (.inl (some (.int r.1))) r.2 := by
  refine CT.ofGoH (by decide +kernel) rfl (Nat.le_of_ble_eq_true rfl) ?_
  unfold f_Q_load at e
  show Go l D ad aC (rmk m_Q_load) _ m_Q_load 0 [some (.ref a0), some (.ref a1), none] [] h 0 0
  obtain ⟨⟨res, h1⟩, hr, e⟩ := bd_inv e
  have hct := x_F_load (l := l) (D := D) (ad := ad) (aC := aC) hf hI k0 hr
  refine Go.run (pc' := 3) [.aload_n 1, .iconst 0, .aload_n 0] (ls' := [some (.ref a0), some (.ref a1), none]) (st' := [.ref a0, .int 0, .ref a1]) (by decide +kernel) rfl rfl ?_
  cases res with
  | inl v =>
    cases v with
    | none => exact no_none e
    | some w =>
      cases w with
      | int w =>
        obtain rfl := Option.some.inj e
        refine Go.callV (M2 := m_F_load) (a := a0) (as := []) (rest := [.int 0, .ref a1]) (h1 := h1) (v := some (.int w)) hct wv_Q_load k0 kc_7 (by decide +kernel) rfl rfl ⟨⟨Nat.le_of_ble_eq_true rfl, Nat.le_of_ble_eq_true rfl⟩, ⟨Nat.le_of_ble_eq_true rfl, Nat.le_of_ble_eq_true rfl⟩⟩ (Nat.le_of_ble_eq_true rfl) ?_
        refine Go.run (pc' := 7) [.i2l] (ls' := [some (.ref a0), some (.ref a1), none]) (st' := [.long w.toInt64, .int 0, .ref a1]) (by decide +kernel) rfl rfl ?_
        refine Go.last hI ko (al_13 ko) (by decide) (by decide +kernel) ?_
        refine Go.goto (off := 6) (tgt := 14) (by decide +kernel) (by decide) ?_
        refine Go.run (pc' := 15) [.iconst 0] (ls' := [some (.ref a0), some (.ref a1), none]) (st' := [.int 0]) (by decide +kernel) rfl rfl ?_
        exact Go.iret rfl (by decide) (by decide) (by decide +kernel)
      | long w => exact no_none e
      | float w => exact no_none e
      | double w => exact no_none e
      | null => exact no_none e
      | ref w => exact no_none e
      | retAddr w => exact no_none e
  | inr E =>
    unfold wrapR at e
    dsimp only at e
    rcases Decidable.em ((["java/lang/IllegalStateException"] : List String)[0]? = some E) with z0 | z0
    · replace e := ite_t z0 e
      obtain rfl : "java/lang/IllegalStateException" = E := Option.some.inj z0
      obtain rfl := Option.some.inj e
      refine Go.caught (M2 := m_F_load) (a := a0) (as := []) (rest := [.int 0, .ref a1]) (h1 := h1) (j := 2) (len := 1) hct wv_Q_load k0 kc_7 (by decide +kernel) rfl rfl ⟨⟨Nat.le_of_ble_eq_true rfl, Nat.le_of_ble_eq_true rfl⟩, ⟨Nat.le_of_ble_eq_true rfl, Nat.le_of_ble_eq_true rfl⟩⟩ (Nat.le_of_ble_eq_true rfl) (by decide) [] ⟨0, 8, 11, 15⟩ [] rfl (fun z hz => nomatch hz) (by decide) (by decide) cl_IllegalStateException ca_IllegalStateException (Or.inr ⟨2, by decide +kernel, rfl, rfl⟩) rfl ?_
      refine Go.run (pc' := 13) [.iconst 1] (ls' := [some (.ref a0), some (.ref a1), none]) (st' := [.int 1]) (by decide +kernel) rfl rfl ?_
      exact Go.iret rfl (by decide) (by decide) (by decide +kernel)
    replace e := ite_f z0 e
    replace e := ite_f (show ¬ ((["java/lang/IllegalStateException"] : List String)[1]? = some E) by simp) e
    exact no_none e
def m_Q_about : MI := (⟨"FairWallsLaw", "about", "(LFairWalls;I[J)I"⟩, method_5_code, 4, (some .int), 9, 1, [(0, 9, 12, 13)])
theorem cw_Q_about : codeW m_Q_about ∈ GT := gtb 637 (by decide +kernel) (by decide +kernel)
theorem sw_Q_about : Cond.static m_Q_about.y ∈ GT := gtb 636 (by decide +kernel) (by decide +kernel)
theorem wv_Q_about : WV "FairWallsLaw" 21 m_F_about 1 := ⟨⟨gtb 638 (by decide +kernel) (by decide +kernel), iw_F_about, cw_F_about, rfl, by decide +kernel, by decide +kernel⟩, nw_F_about, vw_F_about⟩
def f_Q_about (h : HP) (a0 : Nat) (x1 : Int32) (a2 : Nat) : Option (Int32 × HP) := (f_F_about h a0 x1).bind (wrapR ["java/lang/IllegalArgumentException"] a2)
set_option maxHeartbeats 1000000 in
theorem x_Q_about {l : Launch} {D : va_G} {ad : Nat → Nat} {aC : Nat → ClassId} (hf : l.flags = flags0) (hI : Inj ad) {h : HP} {a0 : Nat} {x1 : Int32} {a2 : Nat} {r : Int32 × HP} (k0 : knd a0 = 7) (ko : knd a2 = 13) (e : f_Q_about h a0 x1 a2 = some r) : CT l D ad aC m_Q_about [.ref a0, .int x1, .ref a2] h (.inl (some (.int r.1))) r.2 := by
  refine CT.ofGoH (by decide +kernel) rfl (Nat.le_of_ble_eq_true rfl) ?_
  unfold f_Q_about at e
  show Go l D ad aC (rmk m_Q_about) _ m_Q_about 0 [some (.ref a0), some (.int x1), some (.ref a2), none] [] h 0 0
  obtain ⟨⟨res, h1⟩, hr, e⟩ := bd_inv e
  have hct := x_F_about (l := l) (D := D) (ad := ad) (aC := aC) hf hI k0 hr
  refine Go.run (pc' := 4) [.aload_n 2, .iconst 0, .aload_n 0, .iload_n 1] (ls' := [some (.ref a0), some (.int x1), some (.ref a2), none]) (st' := [.int x1, .ref a0, .int 0, .ref a2]) (by decide +kernel) rfl rfl ?_
  cases res with
  | inl v =>
    cases v with
    | none => exact no_none e
    | some w =>
      cases w with
      | int w =>
        obtain rfl := Option.some.inj e
        refine Go.callV (M2 := m_F_about) (a := a0) (as := [.int x1]) (rest := [.int 0, .ref a2]) (h1 := h1) (v := some (.int w)) hct wv_Q_about k0 kc_7 (by decide +kernel) rfl rfl ⟨⟨Nat.le_of_ble_eq_true rfl, Nat.le_of_ble_eq_true rfl⟩, ⟨Nat.le_of_ble_eq_true rfl, Nat.le_of_ble_eq_true rfl⟩⟩ (Nat.le_of_ble_eq_true rfl) ?_
        refine Go.run (pc' := 8) [.i2l] (ls' := [some (.ref a0), some (.int x1), some (.ref a2), none]) (st' := [.long w.toInt64, .int 0, .ref a2]) (by decide +kernel) rfl rfl ?_
        refine Go.last hI ko (al_13 ko) (by decide) (by decide +kernel) ?_
        refine Go.goto (off := 6) (tgt := 15) (by decide +kernel) (by decide) ?_
        refine Go.run (pc' := 16) [.iconst 0] (ls' := [some (.ref a0), some (.int x1), some (.ref a2), none]) (st' := [.int 0]) (by decide +kernel) rfl rfl ?_
        exact Go.iret rfl (by decide) (by decide) (by decide +kernel)
      | long w => exact no_none e
      | float w => exact no_none e
      | double w => exact no_none e
      | null => exact no_none e
      | ref w => exact no_none e
      | retAddr w => exact no_none e
  | inr E =>
    unfold wrapR at e
    dsimp only at e
    rcases Decidable.em ((["java/lang/IllegalArgumentException"] : List String)[0]? = some E) with z0 | z0
    · replace e := ite_t z0 e
      obtain rfl : "java/lang/IllegalArgumentException" = E := Option.some.inj z0
      obtain rfl := Option.some.inj e
      refine Go.caught (M2 := m_F_about) (a := a0) (as := [.int x1]) (rest := [.int 0, .ref a2]) (h1 := h1) (j := 3) (len := 1) hct wv_Q_about k0 kc_7 (by decide +kernel) rfl rfl ⟨⟨Nat.le_of_ble_eq_true rfl, Nat.le_of_ble_eq_true rfl⟩, ⟨Nat.le_of_ble_eq_true rfl, Nat.le_of_ble_eq_true rfl⟩⟩ (Nat.le_of_ble_eq_true rfl) (by decide) [] ⟨0, 9, 12, 13⟩ [] rfl (fun z hz => nomatch hz) (by decide) (by decide) cl_IllegalArgumentException ca_IllegalArgumentException (Or.inr ⟨3, by decide +kernel, rfl, rfl⟩) rfl ?_
      refine Go.run (pc' := 14) [.iconst 1] (ls' := [some (.ref a0), some (.int x1), some (.ref a2), none]) (st' := [.int 1]) (by decide +kernel) rfl rfl ?_
      exact Go.iret rfl (by decide) (by decide) (by decide +kernel)
    replace e := ite_f z0 e
    replace e := ite_f (show ¬ ((["java/lang/IllegalArgumentException"] : List String)[1]? = some E) by simp) e
    exact no_none e
def m_Q_wallOf : MI := (⟨"FairWallsLaw", "wallOf", "(LFairWalls;II[J)I"⟩, method_6_code, 5, (some .int), 9, 2, [(0, 10, 13, 28), (0, 10, 17, 13)])
theorem cw_Q_wallOf : codeW m_Q_wallOf ∈ GT := gtb 697 (by decide +kernel) (by decide +kernel)
theorem sw_Q_wallOf : Cond.static m_Q_wallOf.y ∈ GT := gtb 696 (by decide +kernel) (by decide +kernel)
theorem wv_Q_wallOf : WV "FairWallsLaw" 24 m_F_wallOf 2 := ⟨⟨gtb 699 (by decide +kernel) (by decide +kernel), iw_F_wallOf, cw_F_wallOf, rfl, by decide +kernel, by decide +kernel⟩, nw_F_wallOf, vw_F_wallOf⟩
def f_Q_wallOf (h : HP) (a0 : Nat) (x1 : Int32) (x2 : Int32) (a3 : Nat) : Option (Int32 × HP) := (f_F_wallOf h a0 x1 x2).bind (wrapR ["java/lang/IndexOutOfBoundsException", "java/lang/IllegalArgumentException"] a3)
set_option maxHeartbeats 1000000 in
theorem x_Q_wallOf {l : Launch} {D : va_G} {ad : Nat → Nat} {aC : Nat → ClassId} (hf : l.flags = flags0) (hI : Inj ad) {h : HP} {a0 : Nat} {x1 : Int32} {x2 : Int32} {a3 : Nat} {r : Int32 × HP} (k0 : knd a0 = 7) (ko : knd a3 = 13) (e : f_Q_wallOf h a0 x1 x2 a3 = some r) : CT l D ad aC m_Q_wallOf [.ref a0, .int x1, .int x2, .ref a3] h (.inl (some (.int r.1))) r.2 := by
  refine CT.ofGoH (by decide +kernel) rfl (Nat.le_of_ble_eq_true rfl) ?_
  unfold f_Q_wallOf at e
  show Go l D ad aC (rmk m_Q_wallOf) _ m_Q_wallOf 0 [some (.ref a0), some (.int x1), some (.int x2), some (.ref a3), none] [] h 0 0
  obtain ⟨⟨res, h1⟩, hr, e⟩ := bd_inv e
  have hct := x_F_wallOf (l := l) (D := D) (ad := ad) (aC := aC) hf hI k0 hr
  refine Go.run (pc' := 5) [.aload_n 3, .iconst 0, .aload_n 0, .iload_n 1, .iload_n 2] (ls' := [some (.ref a0), some (.int x1), some (.int x2), some (.ref a3), none]) (st' := [.int x2, .int x1, .ref a0, .int 0, .ref a3]) (by decide +kernel) rfl rfl ?_
  cases res with
  | inl v =>
    cases v with
    | none => exact no_none e
    | some w =>
      cases w with
      | int w =>
        obtain rfl := Option.some.inj e
        refine Go.callV (M2 := m_F_wallOf) (a := a0) (as := [.int x1, .int x2]) (rest := [.int 0, .ref a3]) (h1 := h1) (v := some (.int w)) hct wv_Q_wallOf k0 kc_7 (by decide +kernel) rfl rfl ⟨⟨Nat.le_of_ble_eq_true rfl, Nat.le_of_ble_eq_true rfl⟩, ⟨Nat.le_of_ble_eq_true rfl, Nat.le_of_ble_eq_true rfl⟩⟩ (Nat.le_of_ble_eq_true rfl) ?_
        refine Go.run (pc' := 9) [.i2l] (ls' := [some (.ref a0), some (.int x1), some (.int x2), some (.ref a3), none]) (st' := [.long w.toInt64, .int 0, .ref a3]) (by decide +kernel) rfl rfl ?_
        refine Go.last hI ko (al_13 ko) (by decide) (by decide +kernel) ?_
        refine Go.goto (off := 11) (tgt := 21) (by decide +kernel) (by decide) ?_
        refine Go.run (pc' := 22) [.iconst 0] (ls' := [some (.ref a0), some (.int x1), some (.int x2), some (.ref a3), none]) (st' := [.int 0]) (by decide +kernel) rfl rfl ?_
        exact Go.iret rfl (by decide) (by decide) (by decide +kernel)
      | long w => exact no_none e
      | float w => exact no_none e
      | double w => exact no_none e
      | null => exact no_none e
      | ref w => exact no_none e
      | retAddr w => exact no_none e
  | inr E =>
    unfold wrapR at e
    dsimp only at e
    rcases Decidable.em ((["java/lang/IndexOutOfBoundsException", "java/lang/IllegalArgumentException"] : List String)[0]? = some E) with z0 | z0
    · replace e := ite_t z0 e
      obtain rfl : "java/lang/IndexOutOfBoundsException" = E := Option.some.inj z0
      obtain rfl := Option.some.inj e
      refine Go.caught (M2 := m_F_wallOf) (a := a0) (as := [.int x1, .int x2]) (rest := [.int 0, .ref a3]) (h1 := h1) (j := 4) (len := 2) hct wv_Q_wallOf k0 kc_7 (by decide +kernel) rfl rfl ⟨⟨Nat.le_of_ble_eq_true rfl, Nat.le_of_ble_eq_true rfl⟩, ⟨Nat.le_of_ble_eq_true rfl, Nat.le_of_ble_eq_true rfl⟩⟩ (Nat.le_of_ble_eq_true rfl) (by decide) [] ⟨0, 10, 13, 28⟩ [⟨0, 10, 17, 13⟩] rfl (fun z hz => nomatch hz) (by decide) (by decide) cl_IndexOutOfBoundsException ca_IndexOutOfBoundsException (Or.inl ⟨by decide +kernel, rfl⟩) rfl ?_
      refine Go.run (pc' := 16) [.iconst 1] (ls' := [some (.ref a0), some (.int x1), some (.int x2), some (.ref a3), none]) (st' := [.int 1]) (by decide +kernel) rfl rfl ?_
      exact Go.iret rfl (by decide) (by decide) (by decide +kernel)
    replace e := ite_f z0 e
    rcases Decidable.em ((["java/lang/IndexOutOfBoundsException", "java/lang/IllegalArgumentException"] : List String)[1]? = some E) with z1 | z1
    · replace e := ite_t z1 e
      obtain rfl : "java/lang/IllegalArgumentException" = E := Option.some.inj z1
      obtain rfl := Option.some.inj e
      refine Go.caught (M2 := m_F_wallOf) (a := a0) (as := [.int x1, .int x2]) (rest := [.int 0, .ref a3]) (h1 := h1) (j := 4) (len := 2) hct wv_Q_wallOf k0 kc_7 (by decide +kernel) rfl rfl ⟨⟨Nat.le_of_ble_eq_true rfl, Nat.le_of_ble_eq_true rfl⟩, ⟨Nat.le_of_ble_eq_true rfl, Nat.le_of_ble_eq_true rfl⟩⟩ (Nat.le_of_ble_eq_true rfl) (by decide) [⟨0, 10, 13, 28⟩] ⟨0, 10, 17, 13⟩ [] rfl (fun z hz => by have e0 := List.mem_singleton.mp hz; subst e0; exact Or.inr ⟨by decide, "java/lang/IndexOutOfBoundsException", cl_IndexOutOfBoundsException, by decide⟩) (by decide) (by decide) cl_IllegalArgumentException ca_IllegalArgumentException (Or.inl ⟨by decide +kernel, rfl⟩) rfl ?_
      refine Go.run (pc' := 20) [.iconst 2] (ls' := [some (.ref a0), some (.int x1), some (.int x2), some (.ref a3), none]) (st' := [.int 2]) (by decide +kernel) rfl rfl ?_
      exact Go.iret rfl (by decide) (by decide) (by decide +kernel)
    replace e := ite_f z1 e
    exact no_none e
def m_Q_metreOf : MI := (⟨"FairWallsLaw", "metreOf", "(LFairWalls;III[J)I"⟩, method_7_code, 6, (some .int), 9, 2, [(0, 12, 15, 28), (0, 12, 19, 13)])
theorem cw_Q_metreOf : codeW m_Q_metreOf ∈ GT := gtb 748 (by decide +kernel) (by decide +kernel)
theorem sw_Q_metreOf : Cond.static m_Q_metreOf.y ∈ GT := gtb 747 (by decide +kernel) (by decide +kernel)
theorem wv_Q_metreOf : WV "FairWallsLaw" 30 m_F_metreOf 3 := ⟨⟨gtb 749 (by decide +kernel) (by decide +kernel), iw_F_metreOf, cw_F_metreOf, rfl, by decide +kernel, by decide +kernel⟩, nw_F_metreOf, vw_F_metreOf⟩
def f_Q_metreOf (h : HP) (a0 : Nat) (x1 : Int32) (x2 : Int32) (x3 : Int32) (a4 : Nat) : Option (Int32 × HP) := (f_F_metreOf h a0 x1 x2 x3).bind (wrapR ["java/lang/IndexOutOfBoundsException", "java/lang/IllegalArgumentException"] a4)
set_option maxHeartbeats 1000000 in
theorem x_Q_metreOf {l : Launch} {D : va_G} {ad : Nat → Nat} {aC : Nat → ClassId} (hf : l.flags = flags0) (hI : Inj ad) {h : HP} {a0 : Nat} {x1 : Int32} {x2 : Int32} {x3 : Int32} {a4 : Nat} {r : Int32 × HP} (k0 : knd a0 = 7) (ko : knd a4 = 13) (e : f_Q_metreOf h a0 x1 x2 x3 a4 = some r) : CT l D ad aC m_Q_metreOf [.ref a0, .int x1, .int x2, .int x3, .ref a4] h (.inl (some (.int r.1))) r.2 := by
  refine CT.ofGoH (by decide +kernel) rfl (Nat.le_of_ble_eq_true rfl) ?_
  unfold f_Q_metreOf at e
  show Go l D ad aC (rmk m_Q_metreOf) _ m_Q_metreOf 0 [some (.ref a0), some (.int x1), some (.int x2), some (.int x3), some (.ref a4), none] [] h 0 0
  obtain ⟨⟨res, h1⟩, hr, e⟩ := bd_inv e
  have hct := x_F_metreOf (l := l) (D := D) (ad := ad) (aC := aC) hf hI k0 hr
  refine Go.run (pc' := 7) [.aload 4, .iconst 0, .aload_n 0, .iload_n 1, .iload_n 2, .iload_n 3] (ls' := [some (.ref a0), some (.int x1), some (.int x2), some (.int x3), some (.ref a4), none]) (st' := [.int x3, .int x2, .int x1, .ref a0, .int 0, .ref a4]) (by decide +kernel) rfl rfl ?_
  cases res with
  | inl v =>
    cases v with
    | none => exact no_none e
    | some w =>
      cases w with
      | int w =>
        obtain rfl := Option.some.inj e
        refine Go.callV (M2 := m_F_metreOf) (a := a0) (as := [.int x1, .int x2, .int x3]) (rest := [.int 0, .ref a4]) (h1 := h1) (v := some (.int w)) hct wv_Q_metreOf k0 kc_7 (by decide +kernel) rfl rfl ⟨⟨Nat.le_of_ble_eq_true rfl, Nat.le_of_ble_eq_true rfl⟩, ⟨Nat.le_of_ble_eq_true rfl, Nat.le_of_ble_eq_true rfl⟩⟩ (Nat.le_of_ble_eq_true rfl) ?_
        refine Go.run (pc' := 11) [.i2l] (ls' := [some (.ref a0), some (.int x1), some (.int x2), some (.int x3), some (.ref a4), none]) (st' := [.long w.toInt64, .int 0, .ref a4]) (by decide +kernel) rfl rfl ?_
        refine Go.last hI ko (al_13 ko) (by decide) (by decide +kernel) ?_
        refine Go.goto (off := 11) (tgt := 23) (by decide +kernel) (by decide) ?_
        refine Go.run (pc' := 24) [.iconst 0] (ls' := [some (.ref a0), some (.int x1), some (.int x2), some (.int x3), some (.ref a4), none]) (st' := [.int 0]) (by decide +kernel) rfl rfl ?_
        exact Go.iret rfl (by decide) (by decide) (by decide +kernel)
      | long w => exact no_none e
      | float w => exact no_none e
      | double w => exact no_none e
      | null => exact no_none e
      | ref w => exact no_none e
      | retAddr w => exact no_none e
  | inr E =>
    unfold wrapR at e
    dsimp only at e
    rcases Decidable.em ((["java/lang/IndexOutOfBoundsException", "java/lang/IllegalArgumentException"] : List String)[0]? = some E) with z0 | z0
    · replace e := ite_t z0 e
      obtain rfl : "java/lang/IndexOutOfBoundsException" = E := Option.some.inj z0
      obtain rfl := Option.some.inj e
      refine Go.caught (M2 := m_F_metreOf) (a := a0) (as := [.int x1, .int x2, .int x3]) (rest := [.int 0, .ref a4]) (h1 := h1) (j := 5) (len := 2) hct wv_Q_metreOf k0 kc_7 (by decide +kernel) rfl rfl ⟨⟨Nat.le_of_ble_eq_true rfl, Nat.le_of_ble_eq_true rfl⟩, ⟨Nat.le_of_ble_eq_true rfl, Nat.le_of_ble_eq_true rfl⟩⟩ (Nat.le_of_ble_eq_true rfl) (by decide) [] ⟨0, 12, 15, 28⟩ [⟨0, 12, 19, 13⟩] rfl (fun z hz => nomatch hz) (by decide) (by decide) cl_IndexOutOfBoundsException ca_IndexOutOfBoundsException (Or.inl ⟨by decide +kernel, rfl⟩) rfl ?_
      refine Go.run (pc' := 18) [.iconst 1] (ls' := [some (.ref a0), some (.int x1), some (.int x2), some (.int x3), some (.ref a4), none]) (st' := [.int 1]) (by decide +kernel) rfl rfl ?_
      exact Go.iret rfl (by decide) (by decide) (by decide +kernel)
    replace e := ite_f z0 e
    rcases Decidable.em ((["java/lang/IndexOutOfBoundsException", "java/lang/IllegalArgumentException"] : List String)[1]? = some E) with z1 | z1
    · replace e := ite_t z1 e
      obtain rfl : "java/lang/IllegalArgumentException" = E := Option.some.inj z1
      obtain rfl := Option.some.inj e
      refine Go.caught (M2 := m_F_metreOf) (a := a0) (as := [.int x1, .int x2, .int x3]) (rest := [.int 0, .ref a4]) (h1 := h1) (j := 5) (len := 2) hct wv_Q_metreOf k0 kc_7 (by decide +kernel) rfl rfl ⟨⟨Nat.le_of_ble_eq_true rfl, Nat.le_of_ble_eq_true rfl⟩, ⟨Nat.le_of_ble_eq_true rfl, Nat.le_of_ble_eq_true rfl⟩⟩ (Nat.le_of_ble_eq_true rfl) (by decide) [⟨0, 12, 15, 28⟩] ⟨0, 12, 19, 13⟩ [] rfl (fun z hz => by have e0 := List.mem_singleton.mp hz; subst e0; exact Or.inr ⟨by decide, "java/lang/IndexOutOfBoundsException", cl_IndexOutOfBoundsException, by decide⟩) (by decide) (by decide) cl_IllegalArgumentException ca_IllegalArgumentException (Or.inl ⟨by decide +kernel, rfl⟩) rfl ?_
      refine Go.run (pc' := 22) [.iconst 2] (ls' := [some (.ref a0), some (.int x1), some (.int x2), some (.int x3), some (.ref a4), none]) (st' := [.int 2]) (by decide +kernel) rfl rfl ?_
      exact Go.iret rfl (by decide) (by decide) (by decide +kernel)
    replace e := ite_f z1 e
    exact no_none e
def m_Q_dealerOf : MI := (⟨"FairWallsLaw", "dealerOf", "(LFairWalls;II[J)I"⟩, method_8_code, 5, (some .int), 9, 2, [(0, 10, 13, 28), (0, 10, 17, 13)])
theorem cw_Q_dealerOf : codeW m_Q_dealerOf ∈ GT := gtb 759 (by decide +kernel) (by decide +kernel)
theorem sw_Q_dealerOf : Cond.static m_Q_dealerOf.y ∈ GT := gtb 758 (by decide +kernel) (by decide +kernel)
theorem wv_Q_dealerOf : WV "FairWallsLaw" 34 m_F_dealerOf 2 := ⟨⟨gtb 760 (by decide +kernel) (by decide +kernel), iw_F_dealerOf, cw_F_dealerOf, rfl, by decide +kernel, by decide +kernel⟩, nw_F_dealerOf, vw_F_dealerOf⟩
def f_Q_dealerOf (h : HP) (a0 : Nat) (x1 : Int32) (x2 : Int32) (a3 : Nat) : Option (Int32 × HP) := (f_F_dealerOf h a0 x1 x2).bind (wrapR ["java/lang/IndexOutOfBoundsException", "java/lang/IllegalArgumentException"] a3)
set_option maxHeartbeats 1000000 in
theorem x_Q_dealerOf {l : Launch} {D : va_G} {ad : Nat → Nat} {aC : Nat → ClassId} (hf : l.flags = flags0) (hI : Inj ad) {h : HP} {a0 : Nat} {x1 : Int32} {x2 : Int32} {a3 : Nat} {r : Int32 × HP} (k0 : knd a0 = 7) (ko : knd a3 = 13) (e : f_Q_dealerOf h a0 x1 x2 a3 = some r) : CT l D ad aC m_Q_dealerOf [.ref a0, .int x1, .int x2, .ref a3] h (.inl (some (.int r.1))) r.2 := by
  refine CT.ofGoH (by decide +kernel) rfl (Nat.le_of_ble_eq_true rfl) ?_
  unfold f_Q_dealerOf at e
  show Go l D ad aC (rmk m_Q_dealerOf) _ m_Q_dealerOf 0 [some (.ref a0), some (.int x1), some (.int x2), some (.ref a3), none] [] h 0 0
  obtain ⟨⟨res, h1⟩, hr, e⟩ := bd_inv e
  have hct := x_F_dealerOf (l := l) (D := D) (ad := ad) (aC := aC) hf hI k0 hr
  refine Go.run (pc' := 5) [.aload_n 3, .iconst 0, .aload_n 0, .iload_n 1, .iload_n 2] (ls' := [some (.ref a0), some (.int x1), some (.int x2), some (.ref a3), none]) (st' := [.int x2, .int x1, .ref a0, .int 0, .ref a3]) (by decide +kernel) rfl rfl ?_
  cases res with
  | inl v =>
    cases v with
    | none => exact no_none e
    | some w =>
      cases w with
      | int w =>
        obtain rfl := Option.some.inj e
        refine Go.callV (M2 := m_F_dealerOf) (a := a0) (as := [.int x1, .int x2]) (rest := [.int 0, .ref a3]) (h1 := h1) (v := some (.int w)) hct wv_Q_dealerOf k0 kc_7 (by decide +kernel) rfl rfl ⟨⟨Nat.le_of_ble_eq_true rfl, Nat.le_of_ble_eq_true rfl⟩, ⟨Nat.le_of_ble_eq_true rfl, Nat.le_of_ble_eq_true rfl⟩⟩ (Nat.le_of_ble_eq_true rfl) ?_
        refine Go.run (pc' := 9) [.i2l] (ls' := [some (.ref a0), some (.int x1), some (.int x2), some (.ref a3), none]) (st' := [.long w.toInt64, .int 0, .ref a3]) (by decide +kernel) rfl rfl ?_
        refine Go.last hI ko (al_13 ko) (by decide) (by decide +kernel) ?_
        refine Go.goto (off := 11) (tgt := 21) (by decide +kernel) (by decide) ?_
        refine Go.run (pc' := 22) [.iconst 0] (ls' := [some (.ref a0), some (.int x1), some (.int x2), some (.ref a3), none]) (st' := [.int 0]) (by decide +kernel) rfl rfl ?_
        exact Go.iret rfl (by decide) (by decide) (by decide +kernel)
      | long w => exact no_none e
      | float w => exact no_none e
      | double w => exact no_none e
      | null => exact no_none e
      | ref w => exact no_none e
      | retAddr w => exact no_none e
  | inr E =>
    unfold wrapR at e
    dsimp only at e
    rcases Decidable.em ((["java/lang/IndexOutOfBoundsException", "java/lang/IllegalArgumentException"] : List String)[0]? = some E) with z0 | z0
    · replace e := ite_t z0 e
      obtain rfl : "java/lang/IndexOutOfBoundsException" = E := Option.some.inj z0
      obtain rfl := Option.some.inj e
      refine Go.caught (M2 := m_F_dealerOf) (a := a0) (as := [.int x1, .int x2]) (rest := [.int 0, .ref a3]) (h1 := h1) (j := 4) (len := 2) hct wv_Q_dealerOf k0 kc_7 (by decide +kernel) rfl rfl ⟨⟨Nat.le_of_ble_eq_true rfl, Nat.le_of_ble_eq_true rfl⟩, ⟨Nat.le_of_ble_eq_true rfl, Nat.le_of_ble_eq_true rfl⟩⟩ (Nat.le_of_ble_eq_true rfl) (by decide) [] ⟨0, 10, 13, 28⟩ [⟨0, 10, 17, 13⟩] rfl (fun z hz => nomatch hz) (by decide) (by decide) cl_IndexOutOfBoundsException ca_IndexOutOfBoundsException (Or.inl ⟨by decide +kernel, rfl⟩) rfl ?_
      refine Go.run (pc' := 16) [.iconst 1] (ls' := [some (.ref a0), some (.int x1), some (.int x2), some (.ref a3), none]) (st' := [.int 1]) (by decide +kernel) rfl rfl ?_
      exact Go.iret rfl (by decide) (by decide) (by decide +kernel)
    replace e := ite_f z0 e
    rcases Decidable.em ((["java/lang/IndexOutOfBoundsException", "java/lang/IllegalArgumentException"] : List String)[1]? = some E) with z1 | z1
    · replace e := ite_t z1 e
      obtain rfl : "java/lang/IllegalArgumentException" = E := Option.some.inj z1
      obtain rfl := Option.some.inj e
      refine Go.caught (M2 := m_F_dealerOf) (a := a0) (as := [.int x1, .int x2]) (rest := [.int 0, .ref a3]) (h1 := h1) (j := 4) (len := 2) hct wv_Q_dealerOf k0 kc_7 (by decide +kernel) rfl rfl ⟨⟨Nat.le_of_ble_eq_true rfl, Nat.le_of_ble_eq_true rfl⟩, ⟨Nat.le_of_ble_eq_true rfl, Nat.le_of_ble_eq_true rfl⟩⟩ (Nat.le_of_ble_eq_true rfl) (by decide) [⟨0, 10, 13, 28⟩] ⟨0, 10, 17, 13⟩ [] rfl (fun z hz => by have e0 := List.mem_singleton.mp hz; subst e0; exact Or.inr ⟨by decide, "java/lang/IndexOutOfBoundsException", cl_IndexOutOfBoundsException, by decide⟩) (by decide) (by decide) cl_IllegalArgumentException ca_IllegalArgumentException (Or.inl ⟨by decide +kernel, rfl⟩) rfl ?_
      refine Go.run (pc' := 20) [.iconst 2] (ls' := [some (.ref a0), some (.int x1), some (.int x2), some (.ref a3), none]) (st' := [.int 2]) (by decide +kernel) rfl rfl ?_
      exact Go.iret rfl (by decide) (by decide) (by decide +kernel)
    replace e := ite_f z1 e
    exact no_none e
def m_Q_plugOf : MI := (⟨"FairWallsLaw", "plugOf", "(LFairWalls;II[J)I"⟩, method_9_code, 5, (some .int), 9, 2, [(0, 10, 13, 28), (0, 10, 17, 13)])
theorem cw_Q_plugOf : codeW m_Q_plugOf ∈ GT := gtb 776 (by decide +kernel) (by decide +kernel)
theorem sw_Q_plugOf : Cond.static m_Q_plugOf.y ∈ GT := gtb 775 (by decide +kernel) (by decide +kernel)
theorem wv_Q_plugOf : WV "FairWallsLaw" 37 m_F_plugOf 2 := ⟨⟨gtb 777 (by decide +kernel) (by decide +kernel), iw_F_plugOf, cw_F_plugOf, rfl, by decide +kernel, by decide +kernel⟩, nw_F_plugOf, vw_F_plugOf⟩
def f_Q_plugOf (h : HP) (a0 : Nat) (x1 : Int32) (x2 : Int32) (a3 : Nat) : Option (Int32 × HP) := (f_F_plugOf h a0 x1 x2).bind (wrapR ["java/lang/IndexOutOfBoundsException", "java/lang/IllegalArgumentException"] a3)
set_option maxHeartbeats 1000000 in
theorem x_Q_plugOf {l : Launch} {D : va_G} {ad : Nat → Nat} {aC : Nat → ClassId} (hf : l.flags = flags0) (hI : Inj ad) {h : HP} {a0 : Nat} {x1 : Int32} {x2 : Int32} {a3 : Nat} {r : Int32 × HP} (k0 : knd a0 = 7) (ko : knd a3 = 13) (e : f_Q_plugOf h a0 x1 x2 a3 = some r) : CT l D ad aC m_Q_plugOf [.ref a0, .int x1, .int x2, .ref a3] h (.inl (some (.int r.1))) r.2 := by
  refine CT.ofGoH (by decide +kernel) rfl (Nat.le_of_ble_eq_true rfl) ?_
  unfold f_Q_plugOf at e
  show Go l D ad aC (rmk m_Q_plugOf) _ m_Q_plugOf 0 [some (.ref a0), some (.int x1), some (.int x2), some (.ref a3), none] [] h 0 0
  obtain ⟨⟨res, h1⟩, hr, e⟩ := bd_inv e
  have hct := x_F_plugOf (l := l) (D := D) (ad := ad) (aC := aC) hf hI k0 hr
  refine Go.run (pc' := 5) [.aload_n 3, .iconst 0, .aload_n 0, .iload_n 1, .iload_n 2] (ls' := [some (.ref a0), some (.int x1), some (.int x2), some (.ref a3), none]) (st' := [.int x2, .int x1, .ref a0, .int 0, .ref a3]) (by decide +kernel) rfl rfl ?_
  cases res with
  | inl v =>
    cases v with
    | none => exact no_none e
    | some w =>
      cases w with
      | int w =>
        obtain rfl := Option.some.inj e
        refine Go.callV (M2 := m_F_plugOf) (a := a0) (as := [.int x1, .int x2]) (rest := [.int 0, .ref a3]) (h1 := h1) (v := some (.int w)) hct wv_Q_plugOf k0 kc_7 (by decide +kernel) rfl rfl ⟨⟨Nat.le_of_ble_eq_true rfl, Nat.le_of_ble_eq_true rfl⟩, ⟨Nat.le_of_ble_eq_true rfl, Nat.le_of_ble_eq_true rfl⟩⟩ (Nat.le_of_ble_eq_true rfl) ?_
        refine Go.run (pc' := 9) [.i2l] (ls' := [some (.ref a0), some (.int x1), some (.int x2), some (.ref a3), none]) (st' := [.long w.toInt64, .int 0, .ref a3]) (by decide +kernel) rfl rfl ?_
        refine Go.last hI ko (al_13 ko) (by decide) (by decide +kernel) ?_
        refine Go.goto (off := 11) (tgt := 21) (by decide +kernel) (by decide) ?_
        refine Go.run (pc' := 22) [.iconst 0] (ls' := [some (.ref a0), some (.int x1), some (.int x2), some (.ref a3), none]) (st' := [.int 0]) (by decide +kernel) rfl rfl ?_
        exact Go.iret rfl (by decide) (by decide) (by decide +kernel)
      | long w => exact no_none e
      | float w => exact no_none e
      | double w => exact no_none e
      | null => exact no_none e
      | ref w => exact no_none e
      | retAddr w => exact no_none e
  | inr E =>
    unfold wrapR at e
    dsimp only at e
    rcases Decidable.em ((["java/lang/IndexOutOfBoundsException", "java/lang/IllegalArgumentException"] : List String)[0]? = some E) with z0 | z0
    · replace e := ite_t z0 e
      obtain rfl : "java/lang/IndexOutOfBoundsException" = E := Option.some.inj z0
      obtain rfl := Option.some.inj e
      refine Go.caught (M2 := m_F_plugOf) (a := a0) (as := [.int x1, .int x2]) (rest := [.int 0, .ref a3]) (h1 := h1) (j := 4) (len := 2) hct wv_Q_plugOf k0 kc_7 (by decide +kernel) rfl rfl ⟨⟨Nat.le_of_ble_eq_true rfl, Nat.le_of_ble_eq_true rfl⟩, ⟨Nat.le_of_ble_eq_true rfl, Nat.le_of_ble_eq_true rfl⟩⟩ (Nat.le_of_ble_eq_true rfl) (by decide) [] ⟨0, 10, 13, 28⟩ [⟨0, 10, 17, 13⟩] rfl (fun z hz => nomatch hz) (by decide) (by decide) cl_IndexOutOfBoundsException ca_IndexOutOfBoundsException (Or.inl ⟨by decide +kernel, rfl⟩) rfl ?_
      refine Go.run (pc' := 16) [.iconst 1] (ls' := [some (.ref a0), some (.int x1), some (.int x2), some (.ref a3), none]) (st' := [.int 1]) (by decide +kernel) rfl rfl ?_
      exact Go.iret rfl (by decide) (by decide) (by decide +kernel)
    replace e := ite_f z0 e
    rcases Decidable.em ((["java/lang/IndexOutOfBoundsException", "java/lang/IllegalArgumentException"] : List String)[1]? = some E) with z1 | z1
    · replace e := ite_t z1 e
      obtain rfl : "java/lang/IllegalArgumentException" = E := Option.some.inj z1
      obtain rfl := Option.some.inj e
      refine Go.caught (M2 := m_F_plugOf) (a := a0) (as := [.int x1, .int x2]) (rest := [.int 0, .ref a3]) (h1 := h1) (j := 4) (len := 2) hct wv_Q_plugOf k0 kc_7 (by decide +kernel) rfl rfl ⟨⟨Nat.le_of_ble_eq_true rfl, Nat.le_of_ble_eq_true rfl⟩, ⟨Nat.le_of_ble_eq_true rfl, Nat.le_of_ble_eq_true rfl⟩⟩ (Nat.le_of_ble_eq_true rfl) (by decide) [⟨0, 10, 13, 28⟩] ⟨0, 10, 17, 13⟩ [] rfl (fun z hz => by have e0 := List.mem_singleton.mp hz; subst e0; exact Or.inr ⟨by decide, "java/lang/IndexOutOfBoundsException", cl_IndexOutOfBoundsException, by decide⟩) (by decide) (by decide) cl_IllegalArgumentException ca_IllegalArgumentException (Or.inl ⟨by decide +kernel, rfl⟩) rfl ?_
      refine Go.run (pc' := 20) [.iconst 2] (ls' := [some (.ref a0), some (.int x1), some (.int x2), some (.ref a3), none]) (st' := [.int 2]) (by decide +kernel) rfl rfl ?_
      exact Go.iret rfl (by decide) (by decide) (by decide +kernel)
    replace e := ite_f z1 e
    exact no_none e
def m_Q_setting : MI := (⟨"FairWallsLaw", "setting", "(LFairWalls;I[J)I"⟩, method_10_code, 4, (some .int), 9, 1, [(0, 9, 12, 13)])
theorem cw_Q_setting : codeW m_Q_setting ∈ GT := gtb 788 (by decide +kernel) (by decide +kernel)
theorem sw_Q_setting : Cond.static m_Q_setting.y ∈ GT := gtb 787 (by decide +kernel) (by decide +kernel)
theorem wv_Q_setting : WV "FairWallsLaw" 40 m_F_setting 1 := ⟨⟨gtb 789 (by decide +kernel) (by decide +kernel), iw_F_setting, cw_F_setting, rfl, by decide +kernel, by decide +kernel⟩, nw_F_setting, vw_F_setting⟩
def f_Q_setting (h : HP) (a0 : Nat) (x1 : Int32) (a2 : Nat) : Option (Int32 × HP) := (f_F_setting h a0 x1).bind (wrapR ["java/lang/IllegalArgumentException"] a2)
set_option maxHeartbeats 1000000 in
theorem x_Q_setting {l : Launch} {D : va_G} {ad : Nat → Nat} {aC : Nat → ClassId} (hf : l.flags = flags0) (hI : Inj ad) {h : HP} {a0 : Nat} {x1 : Int32} {a2 : Nat} {r : Int32 × HP} (k0 : knd a0 = 7) (ko : knd a2 = 13) (e : f_Q_setting h a0 x1 a2 = some r) : CT l D ad aC m_Q_setting [.ref a0, .int x1, .ref a2] h (.inl (some (.int r.1))) r.2 := by
  refine CT.ofGoH (by decide +kernel) rfl (Nat.le_of_ble_eq_true rfl) ?_
  unfold f_Q_setting at e
  show Go l D ad aC (rmk m_Q_setting) _ m_Q_setting 0 [some (.ref a0), some (.int x1), some (.ref a2), none] [] h 0 0
  obtain ⟨⟨res, h1⟩, hr, e⟩ := bd_inv e
  have hct := x_F_setting (l := l) (D := D) (ad := ad) (aC := aC) hf hI k0 hr
  refine Go.run (pc' := 4) [.aload_n 2, .iconst 0, .aload_n 0, .iload_n 1] (ls' := [some (.ref a0), some (.int x1), some (.ref a2), none]) (st' := [.int x1, .ref a0, .int 0, .ref a2]) (by decide +kernel) rfl rfl ?_
  cases res with
  | inl v =>
    cases v with
    | none => exact no_none e
    | some w =>
      cases w with
      | int w =>
        obtain rfl := Option.some.inj e
        refine Go.callV (M2 := m_F_setting) (a := a0) (as := [.int x1]) (rest := [.int 0, .ref a2]) (h1 := h1) (v := some (.int w)) hct wv_Q_setting k0 kc_7 (by decide +kernel) rfl rfl ⟨⟨Nat.le_of_ble_eq_true rfl, Nat.le_of_ble_eq_true rfl⟩, ⟨Nat.le_of_ble_eq_true rfl, Nat.le_of_ble_eq_true rfl⟩⟩ (Nat.le_of_ble_eq_true rfl) ?_
        refine Go.run (pc' := 8) [.i2l] (ls' := [some (.ref a0), some (.int x1), some (.ref a2), none]) (st' := [.long w.toInt64, .int 0, .ref a2]) (by decide +kernel) rfl rfl ?_
        refine Go.last hI ko (al_13 ko) (by decide) (by decide +kernel) ?_
        refine Go.goto (off := 6) (tgt := 15) (by decide +kernel) (by decide) ?_
        refine Go.run (pc' := 16) [.iconst 0] (ls' := [some (.ref a0), some (.int x1), some (.ref a2), none]) (st' := [.int 0]) (by decide +kernel) rfl rfl ?_
        exact Go.iret rfl (by decide) (by decide) (by decide +kernel)
      | long w => exact no_none e
      | float w => exact no_none e
      | double w => exact no_none e
      | null => exact no_none e
      | ref w => exact no_none e
      | retAddr w => exact no_none e
  | inr E =>
    unfold wrapR at e
    dsimp only at e
    rcases Decidable.em ((["java/lang/IllegalArgumentException"] : List String)[0]? = some E) with z0 | z0
    · replace e := ite_t z0 e
      obtain rfl : "java/lang/IllegalArgumentException" = E := Option.some.inj z0
      obtain rfl := Option.some.inj e
      refine Go.caught (M2 := m_F_setting) (a := a0) (as := [.int x1]) (rest := [.int 0, .ref a2]) (h1 := h1) (j := 3) (len := 1) hct wv_Q_setting k0 kc_7 (by decide +kernel) rfl rfl ⟨⟨Nat.le_of_ble_eq_true rfl, Nat.le_of_ble_eq_true rfl⟩, ⟨Nat.le_of_ble_eq_true rfl, Nat.le_of_ble_eq_true rfl⟩⟩ (Nat.le_of_ble_eq_true rfl) (by decide) [] ⟨0, 9, 12, 13⟩ [] rfl (fun z hz => nomatch hz) (by decide) (by decide) cl_IllegalArgumentException ca_IllegalArgumentException (Or.inr ⟨3, by decide +kernel, rfl, rfl⟩) rfl ?_
      refine Go.run (pc' := 14) [.iconst 1] (ls' := [some (.ref a0), some (.int x1), some (.ref a2), none]) (st' := [.int 1]) (by decide +kernel) rfl rfl ?_
      exact Go.iret rfl (by decide) (by decide) (by decide +kernel)
    replace e := ite_f z0 e
    replace e := ite_f (show ¬ ((["java/lang/IllegalArgumentException"] : List String)[1]? = some E) by simp) e
    exact no_none e
def m_Q_free : MI := (⟨"FairWallsLaw", "free", "(LFairWalls;II[J)I"⟩, method_11_code, 5, (some .int), 9, 2, [(0, 10, 13, 28), (0, 10, 17, 13)])
theorem cw_Q_free : codeW m_Q_free ∈ GT := gtb 795 (by decide +kernel) (by decide +kernel)
theorem sw_Q_free : Cond.static m_Q_free.y ∈ GT := gtb 794 (by decide +kernel) (by decide +kernel)
theorem wv_Q_free : WV "FairWallsLaw" 43 m_F_free 2 := ⟨⟨gtb 796 (by decide +kernel) (by decide +kernel), iw_F_free, cw_F_free, rfl, by decide +kernel, by decide +kernel⟩, nw_F_free, vw_F_free⟩
def f_Q_free (h : HP) (a0 : Nat) (x1 : Int32) (x2 : Int32) (a3 : Nat) : Option (Int32 × HP) := (f_F_free h a0 x1 x2).bind (wrapR ["java/lang/IndexOutOfBoundsException", "java/lang/IllegalArgumentException"] a3)
set_option maxHeartbeats 1000000 in
theorem x_Q_free {l : Launch} {D : va_G} {ad : Nat → Nat} {aC : Nat → ClassId} (hf : l.flags = flags0) (hI : Inj ad) {h : HP} {a0 : Nat} {x1 : Int32} {x2 : Int32} {a3 : Nat} {r : Int32 × HP} (k0 : knd a0 = 7) (ko : knd a3 = 13) (e : f_Q_free h a0 x1 x2 a3 = some r) : CT l D ad aC m_Q_free [.ref a0, .int x1, .int x2, .ref a3] h (.inl (some (.int r.1))) r.2 := by
  refine CT.ofGoH (by decide +kernel) rfl (Nat.le_of_ble_eq_true rfl) ?_
  unfold f_Q_free at e
  show Go l D ad aC (rmk m_Q_free) _ m_Q_free 0 [some (.ref a0), some (.int x1), some (.int x2), some (.ref a3), none] [] h 0 0
  obtain ⟨⟨res, h1⟩, hr, e⟩ := bd_inv e
  have hct := x_F_free (l := l) (D := D) (ad := ad) (aC := aC) hf hI k0 hr
  refine Go.run (pc' := 5) [.aload_n 3, .iconst 0, .aload_n 0, .iload_n 1, .iload_n 2] (ls' := [some (.ref a0), some (.int x1), some (.int x2), some (.ref a3), none]) (st' := [.int x2, .int x1, .ref a0, .int 0, .ref a3]) (by decide +kernel) rfl rfl ?_
  cases res with
  | inl v =>
    cases v with
    | none => exact no_none e
    | some w =>
      cases w with
      | int w =>
        obtain rfl := Option.some.inj e
        refine Go.callV (M2 := m_F_free) (a := a0) (as := [.int x1, .int x2]) (rest := [.int 0, .ref a3]) (h1 := h1) (v := some (.int w)) hct wv_Q_free k0 kc_7 (by decide +kernel) rfl rfl ⟨⟨Nat.le_of_ble_eq_true rfl, Nat.le_of_ble_eq_true rfl⟩, ⟨Nat.le_of_ble_eq_true rfl, Nat.le_of_ble_eq_true rfl⟩⟩ (Nat.le_of_ble_eq_true rfl) ?_
        refine Go.run (pc' := 9) [.i2l] (ls' := [some (.ref a0), some (.int x1), some (.int x2), some (.ref a3), none]) (st' := [.long w.toInt64, .int 0, .ref a3]) (by decide +kernel) rfl rfl ?_
        refine Go.last hI ko (al_13 ko) (by decide) (by decide +kernel) ?_
        refine Go.goto (off := 11) (tgt := 21) (by decide +kernel) (by decide) ?_
        refine Go.run (pc' := 22) [.iconst 0] (ls' := [some (.ref a0), some (.int x1), some (.int x2), some (.ref a3), none]) (st' := [.int 0]) (by decide +kernel) rfl rfl ?_
        exact Go.iret rfl (by decide) (by decide) (by decide +kernel)
      | long w => exact no_none e
      | float w => exact no_none e
      | double w => exact no_none e
      | null => exact no_none e
      | ref w => exact no_none e
      | retAddr w => exact no_none e
  | inr E =>
    unfold wrapR at e
    dsimp only at e
    rcases Decidable.em ((["java/lang/IndexOutOfBoundsException", "java/lang/IllegalArgumentException"] : List String)[0]? = some E) with z0 | z0
    · replace e := ite_t z0 e
      obtain rfl : "java/lang/IndexOutOfBoundsException" = E := Option.some.inj z0
      obtain rfl := Option.some.inj e
      refine Go.caught (M2 := m_F_free) (a := a0) (as := [.int x1, .int x2]) (rest := [.int 0, .ref a3]) (h1 := h1) (j := 4) (len := 2) hct wv_Q_free k0 kc_7 (by decide +kernel) rfl rfl ⟨⟨Nat.le_of_ble_eq_true rfl, Nat.le_of_ble_eq_true rfl⟩, ⟨Nat.le_of_ble_eq_true rfl, Nat.le_of_ble_eq_true rfl⟩⟩ (Nat.le_of_ble_eq_true rfl) (by decide) [] ⟨0, 10, 13, 28⟩ [⟨0, 10, 17, 13⟩] rfl (fun z hz => nomatch hz) (by decide) (by decide) cl_IndexOutOfBoundsException ca_IndexOutOfBoundsException (Or.inl ⟨by decide +kernel, rfl⟩) rfl ?_
      refine Go.run (pc' := 16) [.iconst 1] (ls' := [some (.ref a0), some (.int x1), some (.int x2), some (.ref a3), none]) (st' := [.int 1]) (by decide +kernel) rfl rfl ?_
      exact Go.iret rfl (by decide) (by decide) (by decide +kernel)
    replace e := ite_f z0 e
    rcases Decidable.em ((["java/lang/IndexOutOfBoundsException", "java/lang/IllegalArgumentException"] : List String)[1]? = some E) with z1 | z1
    · replace e := ite_t z1 e
      obtain rfl : "java/lang/IllegalArgumentException" = E := Option.some.inj z1
      obtain rfl := Option.some.inj e
      refine Go.caught (M2 := m_F_free) (a := a0) (as := [.int x1, .int x2]) (rest := [.int 0, .ref a3]) (h1 := h1) (j := 4) (len := 2) hct wv_Q_free k0 kc_7 (by decide +kernel) rfl rfl ⟨⟨Nat.le_of_ble_eq_true rfl, Nat.le_of_ble_eq_true rfl⟩, ⟨Nat.le_of_ble_eq_true rfl, Nat.le_of_ble_eq_true rfl⟩⟩ (Nat.le_of_ble_eq_true rfl) (by decide) [⟨0, 10, 13, 28⟩] ⟨0, 10, 17, 13⟩ [] rfl (fun z hz => by have e0 := List.mem_singleton.mp hz; subst e0; exact Or.inr ⟨by decide, "java/lang/IndexOutOfBoundsException", cl_IndexOutOfBoundsException, by decide⟩) (by decide) (by decide) cl_IllegalArgumentException ca_IllegalArgumentException (Or.inl ⟨by decide +kernel, rfl⟩) rfl ?_
      refine Go.run (pc' := 20) [.iconst 2] (ls' := [some (.ref a0), some (.int x1), some (.int x2), some (.ref a3), none]) (st' := [.int 2]) (by decide +kernel) rfl rfl ?_
      exact Go.iret rfl (by decide) (by decide) (by decide +kernel)
    replace e := ite_f z1 e
    exact no_none e
def m_Q_wall : MI := (⟨"FairWallsLaw", "wall", "(LFairWalls;I[J)I"⟩, method_12_code, 4, (some .int), 9, 2, [(0, 9, 12, 13), (0, 9, 15, 15)])
theorem cw_Q_wall : codeW m_Q_wall ∈ GT := gtb 807 (by decide +kernel) (by decide +kernel)
theorem sw_Q_wall : Cond.static m_Q_wall.y ∈ GT := gtb 806 (by decide +kernel) (by decide +kernel)
theorem wv_Q_wall : WV "FairWallsLaw" 46 m_F_wall 1 := ⟨⟨gtb 808 (by decide +kernel) (by decide +kernel), iw_F_wall, cw_F_wall, rfl, by decide +kernel, by decide +kernel⟩, nw_F_wall, vw_F_wall⟩
def f_Q_wall (h : HP) (a0 : Nat) (x1 : Int32) (a2 : Nat) : Option (Int32 × HP) := (f_F_wall h a0 x1).bind (wrapR ["java/lang/IllegalArgumentException", "java/lang/IllegalStateException"] a2)
set_option maxHeartbeats 1000000 in
theorem x_Q_wall {l : Launch} {D : va_G} {ad : Nat → Nat} {aC : Nat → ClassId} (hf : l.flags = flags0) (hI : Inj ad) {h : HP} {a0 : Nat} {x1 : Int32} {a2 : Nat} {r : Int32 × HP} (k0 : knd a0 = 7) (ko : knd a2 = 13) (e : f_Q_wall h a0 x1 a2 = some r) : CT l D ad aC m_Q_wall [.ref a0, .int x1, .ref a2] h (.inl (some (.int r.1))) r.2 := by
  refine CT.ofGoH (by decide +kernel) rfl (Nat.le_of_ble_eq_true rfl) ?_
  unfold f_Q_wall at e
  show Go l D ad aC (rmk m_Q_wall) _ m_Q_wall 0 [some (.ref a0), some (.int x1), some (.ref a2), none] [] h 0 0
  obtain ⟨⟨res, h1⟩, hr, e⟩ := bd_inv e
  have hct := x_F_wall (l := l) (D := D) (ad := ad) (aC := aC) hf hI k0 hr
  refine Go.run (pc' := 4) [.aload_n 2, .iconst 0, .aload_n 0, .iload_n 1] (ls' := [some (.ref a0), some (.int x1), some (.ref a2), none]) (st' := [.int x1, .ref a0, .int 0, .ref a2]) (by decide +kernel) rfl rfl ?_
  cases res with
  | inl v =>
    cases v with
    | none => exact no_none e
    | some w =>
      cases w with
      | int w =>
        obtain rfl := Option.some.inj e
        refine Go.callV (M2 := m_F_wall) (a := a0) (as := [.int x1]) (rest := [.int 0, .ref a2]) (h1 := h1) (v := some (.int w)) hct wv_Q_wall k0 kc_7 (by decide +kernel) rfl rfl ⟨⟨Nat.le_of_ble_eq_true rfl, Nat.le_of_ble_eq_true rfl⟩, ⟨Nat.le_of_ble_eq_true rfl, Nat.le_of_ble_eq_true rfl⟩⟩ (Nat.le_of_ble_eq_true rfl) ?_
        refine Go.run (pc' := 8) [.i2l] (ls' := [some (.ref a0), some (.int x1), some (.ref a2), none]) (st' := [.long w.toInt64, .int 0, .ref a2]) (by decide +kernel) rfl rfl ?_
        refine Go.last hI ko (al_13 ko) (by decide) (by decide +kernel) ?_
        refine Go.goto (off := 9) (tgt := 18) (by decide +kernel) (by decide) ?_
        refine Go.run (pc' := 19) [.iconst 0] (ls' := [some (.ref a0), some (.int x1), some (.ref a2), none]) (st' := [.int 0]) (by decide +kernel) rfl rfl ?_
        exact Go.iret rfl (by decide) (by decide) (by decide +kernel)
      | long w => exact no_none e
      | float w => exact no_none e
      | double w => exact no_none e
      | null => exact no_none e
      | ref w => exact no_none e
      | retAddr w => exact no_none e
  | inr E =>
    unfold wrapR at e
    dsimp only at e
    rcases Decidable.em ((["java/lang/IllegalArgumentException", "java/lang/IllegalStateException"] : List String)[0]? = some E) with z0 | z0
    · replace e := ite_t z0 e
      obtain rfl : "java/lang/IllegalArgumentException" = E := Option.some.inj z0
      obtain rfl := Option.some.inj e
      refine Go.caught (M2 := m_F_wall) (a := a0) (as := [.int x1]) (rest := [.int 0, .ref a2]) (h1 := h1) (j := 3) (len := 1) hct wv_Q_wall k0 kc_7 (by decide +kernel) rfl rfl ⟨⟨Nat.le_of_ble_eq_true rfl, Nat.le_of_ble_eq_true rfl⟩, ⟨Nat.le_of_ble_eq_true rfl, Nat.le_of_ble_eq_true rfl⟩⟩ (Nat.le_of_ble_eq_true rfl) (by decide) [] ⟨0, 9, 12, 13⟩ [⟨0, 9, 15, 15⟩] rfl (fun z hz => nomatch hz) (by decide) (by decide) cl_IllegalArgumentException ca_IllegalArgumentException (Or.inr ⟨3, by decide +kernel, rfl, rfl⟩) rfl ?_
      refine Go.run (pc' := 14) [.iconst 1] (ls' := [some (.ref a0), some (.int x1), some (.ref a2), none]) (st' := [.int 1]) (by decide +kernel) rfl rfl ?_
      exact Go.iret rfl (by decide) (by decide) (by decide +kernel)
    replace e := ite_f z0 e
    rcases Decidable.em ((["java/lang/IllegalArgumentException", "java/lang/IllegalStateException"] : List String)[1]? = some E) with z1 | z1
    · replace e := ite_t z1 e
      obtain rfl : "java/lang/IllegalStateException" = E := Option.some.inj z1
      obtain rfl := Option.some.inj e
      refine Go.caught (M2 := m_F_wall) (a := a0) (as := [.int x1]) (rest := [.int 0, .ref a2]) (h1 := h1) (j := 3) (len := 1) hct wv_Q_wall k0 kc_7 (by decide +kernel) rfl rfl ⟨⟨Nat.le_of_ble_eq_true rfl, Nat.le_of_ble_eq_true rfl⟩, ⟨Nat.le_of_ble_eq_true rfl, Nat.le_of_ble_eq_true rfl⟩⟩ (Nat.le_of_ble_eq_true rfl) (by decide) [⟨0, 9, 12, 13⟩] ⟨0, 9, 15, 15⟩ [] rfl (fun z hz => by have e0 := List.mem_singleton.mp hz; subst e0; exact Or.inr ⟨by decide, "java/lang/IllegalArgumentException", cl_IllegalArgumentException, by decide⟩) (by decide) (by decide) cl_IllegalStateException ca_IllegalStateException (Or.inr ⟨3, by decide +kernel, rfl, rfl⟩) rfl ?_
      refine Go.run (pc' := 17) [.iconst 2] (ls' := [some (.ref a0), some (.int x1), some (.ref a2), none]) (st' := [.int 2]) (by decide +kernel) rfl rfl ?_
      exact Go.iret rfl (by decide) (by decide) (by decide +kernel)
    replace e := ite_f z1 e
    exact no_none e
def m_Q_outlet : MI := (⟨"FairWallsLaw", "outlet", "(LFairWalls;III[J)I"⟩, method_13_code, 6, (some .int), 9, 2, [(0, 12, 15, 28), (0, 12, 19, 13)])
theorem cw_Q_outlet : codeW m_Q_outlet ∈ GT := gtb 828 (by decide +kernel) (by decide +kernel)
theorem sw_Q_outlet : Cond.static m_Q_outlet.y ∈ GT := gtb 827 (by decide +kernel) (by decide +kernel)
theorem wv_Q_outlet : WV "FairWallsLaw" 49 m_F_outlet 3 := ⟨⟨gtb 829 (by decide +kernel) (by decide +kernel), iw_F_outlet, cw_F_outlet, rfl, by decide +kernel, by decide +kernel⟩, nw_F_outlet, vw_F_outlet⟩
def f_Q_outlet (h : HP) (a0 : Nat) (x1 : Int32) (x2 : Int32) (x3 : Int32) (a4 : Nat) : Option (Int32 × HP) := (f_F_outlet h a0 x1 x2 x3).bind (wrapR ["java/lang/IndexOutOfBoundsException", "java/lang/IllegalArgumentException"] a4)
set_option maxHeartbeats 1000000 in
theorem x_Q_outlet {l : Launch} {D : va_G} {ad : Nat → Nat} {aC : Nat → ClassId} (hf : l.flags = flags0) (hI : Inj ad) {h : HP} {a0 : Nat} {x1 : Int32} {x2 : Int32} {x3 : Int32} {a4 : Nat} {r : Int32 × HP} (k0 : knd a0 = 7) (ko : knd a4 = 13) (e : f_Q_outlet h a0 x1 x2 x3 a4 = some r) : CT l D ad aC m_Q_outlet [.ref a0, .int x1, .int x2, .int x3, .ref a4] h (.inl (some (.int r.1))) r.2 := by
  refine CT.ofGoH (by decide +kernel) rfl (Nat.le_of_ble_eq_true rfl) ?_
  unfold f_Q_outlet at e
  show Go l D ad aC (rmk m_Q_outlet) _ m_Q_outlet 0 [some (.ref a0), some (.int x1), some (.int x2), some (.int x3), some (.ref a4), none] [] h 0 0
  obtain ⟨⟨res, h1⟩, hr, e⟩ := bd_inv e
  have hct := x_F_outlet (l := l) (D := D) (ad := ad) (aC := aC) hf hI k0 hr
  refine Go.run (pc' := 7) [.aload 4, .iconst 0, .aload_n 0, .iload_n 1, .iload_n 2, .iload_n 3] (ls' := [some (.ref a0), some (.int x1), some (.int x2), some (.int x3), some (.ref a4), none]) (st' := [.int x3, .int x2, .int x1, .ref a0, .int 0, .ref a4]) (by decide +kernel) rfl rfl ?_
  cases res with
  | inl v =>
    cases v with
    | none => exact no_none e
    | some w =>
      cases w with
      | int w =>
        obtain rfl := Option.some.inj e
        refine Go.callV (M2 := m_F_outlet) (a := a0) (as := [.int x1, .int x2, .int x3]) (rest := [.int 0, .ref a4]) (h1 := h1) (v := some (.int w)) hct wv_Q_outlet k0 kc_7 (by decide +kernel) rfl rfl ⟨⟨Nat.le_of_ble_eq_true rfl, Nat.le_of_ble_eq_true rfl⟩, ⟨Nat.le_of_ble_eq_true rfl, Nat.le_of_ble_eq_true rfl⟩⟩ (Nat.le_of_ble_eq_true rfl) ?_
        refine Go.run (pc' := 11) [.i2l] (ls' := [some (.ref a0), some (.int x1), some (.int x2), some (.int x3), some (.ref a4), none]) (st' := [.long w.toInt64, .int 0, .ref a4]) (by decide +kernel) rfl rfl ?_
        refine Go.last hI ko (al_13 ko) (by decide) (by decide +kernel) ?_
        refine Go.goto (off := 11) (tgt := 23) (by decide +kernel) (by decide) ?_
        refine Go.run (pc' := 24) [.iconst 0] (ls' := [some (.ref a0), some (.int x1), some (.int x2), some (.int x3), some (.ref a4), none]) (st' := [.int 0]) (by decide +kernel) rfl rfl ?_
        exact Go.iret rfl (by decide) (by decide) (by decide +kernel)
      | long w => exact no_none e
      | float w => exact no_none e
      | double w => exact no_none e
      | null => exact no_none e
      | ref w => exact no_none e
      | retAddr w => exact no_none e
  | inr E =>
    unfold wrapR at e
    dsimp only at e
    rcases Decidable.em ((["java/lang/IndexOutOfBoundsException", "java/lang/IllegalArgumentException"] : List String)[0]? = some E) with z0 | z0
    · replace e := ite_t z0 e
      obtain rfl : "java/lang/IndexOutOfBoundsException" = E := Option.some.inj z0
      obtain rfl := Option.some.inj e
      refine Go.caught (M2 := m_F_outlet) (a := a0) (as := [.int x1, .int x2, .int x3]) (rest := [.int 0, .ref a4]) (h1 := h1) (j := 5) (len := 2) hct wv_Q_outlet k0 kc_7 (by decide +kernel) rfl rfl ⟨⟨Nat.le_of_ble_eq_true rfl, Nat.le_of_ble_eq_true rfl⟩, ⟨Nat.le_of_ble_eq_true rfl, Nat.le_of_ble_eq_true rfl⟩⟩ (Nat.le_of_ble_eq_true rfl) (by decide) [] ⟨0, 12, 15, 28⟩ [⟨0, 12, 19, 13⟩] rfl (fun z hz => nomatch hz) (by decide) (by decide) cl_IndexOutOfBoundsException ca_IndexOutOfBoundsException (Or.inl ⟨by decide +kernel, rfl⟩) rfl ?_
      refine Go.run (pc' := 18) [.iconst 1] (ls' := [some (.ref a0), some (.int x1), some (.int x2), some (.int x3), some (.ref a4), none]) (st' := [.int 1]) (by decide +kernel) rfl rfl ?_
      exact Go.iret rfl (by decide) (by decide) (by decide +kernel)
    replace e := ite_f z0 e
    rcases Decidable.em ((["java/lang/IndexOutOfBoundsException", "java/lang/IllegalArgumentException"] : List String)[1]? = some E) with z1 | z1
    · replace e := ite_t z1 e
      obtain rfl : "java/lang/IllegalArgumentException" = E := Option.some.inj z1
      obtain rfl := Option.some.inj e
      refine Go.caught (M2 := m_F_outlet) (a := a0) (as := [.int x1, .int x2, .int x3]) (rest := [.int 0, .ref a4]) (h1 := h1) (j := 5) (len := 2) hct wv_Q_outlet k0 kc_7 (by decide +kernel) rfl rfl ⟨⟨Nat.le_of_ble_eq_true rfl, Nat.le_of_ble_eq_true rfl⟩, ⟨Nat.le_of_ble_eq_true rfl, Nat.le_of_ble_eq_true rfl⟩⟩ (Nat.le_of_ble_eq_true rfl) (by decide) [⟨0, 12, 15, 28⟩] ⟨0, 12, 19, 13⟩ [] rfl (fun z hz => by have e0 := List.mem_singleton.mp hz; subst e0; exact Or.inr ⟨by decide, "java/lang/IndexOutOfBoundsException", cl_IndexOutOfBoundsException, by decide⟩) (by decide) (by decide) cl_IllegalArgumentException ca_IllegalArgumentException (Or.inl ⟨by decide +kernel, rfl⟩) rfl ?_
      refine Go.run (pc' := 22) [.iconst 2] (ls' := [some (.ref a0), some (.int x1), some (.int x2), some (.int x3), some (.ref a4), none]) (st' := [.int 2]) (by decide +kernel) rfl rfl ?_
      exact Go.iret rfl (by decide) (by decide) (by decide +kernel)
    replace e := ite_f z1 e
    exact no_none e
def m_Q_dealer : MI := (⟨"FairWallsLaw", "dealer", "(LFairWalls;III[J)I"⟩, method_14_code, 6, (some .int), 9, 2, [(0, 12, 15, 13), (0, 12, 19, 15)])
theorem cw_Q_dealer : codeW m_Q_dealer ∈ GT := gtb 836 (by decide +kernel) (by decide +kernel)
theorem sw_Q_dealer : Cond.static m_Q_dealer.y ∈ GT := gtb 835 (by decide +kernel) (by decide +kernel)
theorem wv_Q_dealer : WV "FairWallsLaw" 52 m_F_dealer 3 := ⟨⟨gtb 837 (by decide +kernel) (by decide +kernel), iw_F_dealer, cw_F_dealer, rfl, by decide +kernel, by decide +kernel⟩, nw_F_dealer, vw_F_dealer⟩
def f_Q_dealer (h : HP) (a0 : Nat) (x1 : Int32) (x2 : Int32) (x3 : Int32) (a4 : Nat) : Option (Int32 × HP) := (f_F_dealer h a0 x1 x2 x3).bind (wrapR ["java/lang/IllegalArgumentException", "java/lang/IllegalStateException"] a4)
set_option maxHeartbeats 1000000 in
theorem x_Q_dealer {l : Launch} {D : va_G} {ad : Nat → Nat} {aC : Nat → ClassId} (hf : l.flags = flags0) (hI : Inj ad) {h : HP} {a0 : Nat} {x1 : Int32} {x2 : Int32} {x3 : Int32} {a4 : Nat} {r : Int32 × HP} (k0 : knd a0 = 7) (ko : knd a4 = 13) (e : f_Q_dealer h a0 x1 x2 x3 a4 = some r) : CT l D ad aC m_Q_dealer [.ref a0, .int x1, .int x2, .int x3, .ref a4] h (.inl (some (.int r.1))) r.2 := by
  refine CT.ofGoH (by decide +kernel) rfl (Nat.le_of_ble_eq_true rfl) ?_
  unfold f_Q_dealer at e
  show Go l D ad aC (rmk m_Q_dealer) _ m_Q_dealer 0 [some (.ref a0), some (.int x1), some (.int x2), some (.int x3), some (.ref a4), none] [] h 0 0
  obtain ⟨⟨res, h1⟩, hr, e⟩ := bd_inv e
  have hct := x_F_dealer (l := l) (D := D) (ad := ad) (aC := aC) hf hI k0 hr
  refine Go.run (pc' := 7) [.aload 4, .iconst 0, .aload_n 0, .iload_n 1, .iload_n 2, .iload_n 3] (ls' := [some (.ref a0), some (.int x1), some (.int x2), some (.int x3), some (.ref a4), none]) (st' := [.int x3, .int x2, .int x1, .ref a0, .int 0, .ref a4]) (by decide +kernel) rfl rfl ?_
  cases res with
  | inl v =>
    cases v with
    | none => exact no_none e
    | some w =>
      cases w with
      | int w =>
        obtain rfl := Option.some.inj e
        refine Go.callV (M2 := m_F_dealer) (a := a0) (as := [.int x1, .int x2, .int x3]) (rest := [.int 0, .ref a4]) (h1 := h1) (v := some (.int w)) hct wv_Q_dealer k0 kc_7 (by decide +kernel) rfl rfl ⟨⟨Nat.le_of_ble_eq_true rfl, Nat.le_of_ble_eq_true rfl⟩, ⟨Nat.le_of_ble_eq_true rfl, Nat.le_of_ble_eq_true rfl⟩⟩ (Nat.le_of_ble_eq_true rfl) ?_
        refine Go.run (pc' := 11) [.i2l] (ls' := [some (.ref a0), some (.int x1), some (.int x2), some (.int x3), some (.ref a4), none]) (st' := [.long w.toInt64, .int 0, .ref a4]) (by decide +kernel) rfl rfl ?_
        refine Go.last hI ko (al_13 ko) (by decide) (by decide +kernel) ?_
        refine Go.goto (off := 11) (tgt := 23) (by decide +kernel) (by decide) ?_
        refine Go.run (pc' := 24) [.iconst 0] (ls' := [some (.ref a0), some (.int x1), some (.int x2), some (.int x3), some (.ref a4), none]) (st' := [.int 0]) (by decide +kernel) rfl rfl ?_
        exact Go.iret rfl (by decide) (by decide) (by decide +kernel)
      | long w => exact no_none e
      | float w => exact no_none e
      | double w => exact no_none e
      | null => exact no_none e
      | ref w => exact no_none e
      | retAddr w => exact no_none e
  | inr E =>
    unfold wrapR at e
    dsimp only at e
    rcases Decidable.em ((["java/lang/IllegalArgumentException", "java/lang/IllegalStateException"] : List String)[0]? = some E) with z0 | z0
    · replace e := ite_t z0 e
      obtain rfl : "java/lang/IllegalArgumentException" = E := Option.some.inj z0
      obtain rfl := Option.some.inj e
      refine Go.caught (M2 := m_F_dealer) (a := a0) (as := [.int x1, .int x2, .int x3]) (rest := [.int 0, .ref a4]) (h1 := h1) (j := 5) (len := 2) hct wv_Q_dealer k0 kc_7 (by decide +kernel) rfl rfl ⟨⟨Nat.le_of_ble_eq_true rfl, Nat.le_of_ble_eq_true rfl⟩, ⟨Nat.le_of_ble_eq_true rfl, Nat.le_of_ble_eq_true rfl⟩⟩ (Nat.le_of_ble_eq_true rfl) (by decide) [] ⟨0, 12, 15, 13⟩ [⟨0, 12, 19, 15⟩] rfl (fun z hz => nomatch hz) (by decide) (by decide) cl_IllegalArgumentException ca_IllegalArgumentException (Or.inl ⟨by decide +kernel, rfl⟩) rfl ?_
      refine Go.run (pc' := 18) [.iconst 1] (ls' := [some (.ref a0), some (.int x1), some (.int x2), some (.int x3), some (.ref a4), none]) (st' := [.int 1]) (by decide +kernel) rfl rfl ?_
      exact Go.iret rfl (by decide) (by decide) (by decide +kernel)
    replace e := ite_f z0 e
    rcases Decidable.em ((["java/lang/IllegalArgumentException", "java/lang/IllegalStateException"] : List String)[1]? = some E) with z1 | z1
    · replace e := ite_t z1 e
      obtain rfl : "java/lang/IllegalStateException" = E := Option.some.inj z1
      obtain rfl := Option.some.inj e
      refine Go.caught (M2 := m_F_dealer) (a := a0) (as := [.int x1, .int x2, .int x3]) (rest := [.int 0, .ref a4]) (h1 := h1) (j := 5) (len := 2) hct wv_Q_dealer k0 kc_7 (by decide +kernel) rfl rfl ⟨⟨Nat.le_of_ble_eq_true rfl, Nat.le_of_ble_eq_true rfl⟩, ⟨Nat.le_of_ble_eq_true rfl, Nat.le_of_ble_eq_true rfl⟩⟩ (Nat.le_of_ble_eq_true rfl) (by decide) [⟨0, 12, 15, 13⟩] ⟨0, 12, 19, 15⟩ [] rfl (fun z hz => by have e0 := List.mem_singleton.mp hz; subst e0; exact Or.inr ⟨by decide, "java/lang/IllegalArgumentException", cl_IllegalArgumentException, by decide⟩) (by decide) (by decide) cl_IllegalStateException ca_IllegalStateException (Or.inl ⟨by decide +kernel, rfl⟩) rfl ?_
      refine Go.run (pc' := 22) [.iconst 2] (ls' := [some (.ref a0), some (.int x1), some (.int x2), some (.int x3), some (.ref a4), none]) (st' := [.int 2]) (by decide +kernel) rfl rfl ?_
      exact Go.iret rfl (by decide) (by decide) (by decide +kernel)
    replace e := ite_f z1 e
    exact no_none e
def m_Q_place : MI := (⟨"FairWallsLaw", "place", "(LFairWalls;III[J)I"⟩, method_15_code, 6, (some .int), 9, 1, [(0, 12, 15, 28)])
theorem cw_Q_place : codeW m_Q_place ∈ GT := gtb 845 (by decide +kernel) (by decide +kernel)
theorem sw_Q_place : Cond.static m_Q_place.y ∈ GT := gtb 844 (by decide +kernel) (by decide +kernel)
theorem wv_Q_place : WV "FairWallsLaw" 55 m_F_place 3 := ⟨⟨gtb 846 (by decide +kernel) (by decide +kernel), iw_F_place, cw_F_place, rfl, by decide +kernel, by decide +kernel⟩, nw_F_place, vw_F_place⟩
def f_Q_place (h : HP) (a0 : Nat) (x1 : Int32) (x2 : Int32) (x3 : Int32) (a4 : Nat) : Option (Int32 × HP) := (f_F_place h a0 x1 x2 x3).bind (wrapR ["java/lang/IndexOutOfBoundsException"] a4)
set_option maxHeartbeats 1000000 in
theorem x_Q_place {l : Launch} {D : va_G} {ad : Nat → Nat} {aC : Nat → ClassId} (hf : l.flags = flags0) (hI : Inj ad) {h : HP} {a0 : Nat} {x1 : Int32} {x2 : Int32} {x3 : Int32} {a4 : Nat} {r : Int32 × HP} (k0 : knd a0 = 7) (ko : knd a4 = 13) (e : f_Q_place h a0 x1 x2 x3 a4 = some r) : CT l D ad aC m_Q_place [.ref a0, .int x1, .int x2, .int x3, .ref a4] h (.inl (some (.int r.1))) r.2 := by
  refine CT.ofGoH (by decide +kernel) rfl (Nat.le_of_ble_eq_true rfl) ?_
  unfold f_Q_place at e
  show Go l D ad aC (rmk m_Q_place) _ m_Q_place 0 [some (.ref a0), some (.int x1), some (.int x2), some (.int x3), some (.ref a4), none] [] h 0 0
  obtain ⟨⟨res, h1⟩, hr, e⟩ := bd_inv e
  have hct := x_F_place (l := l) (D := D) (ad := ad) (aC := aC) hf hI k0 hr
  refine Go.run (pc' := 7) [.aload 4, .iconst 0, .aload_n 0, .iload_n 1, .iload_n 2, .iload_n 3] (ls' := [some (.ref a0), some (.int x1), some (.int x2), some (.int x3), some (.ref a4), none]) (st' := [.int x3, .int x2, .int x1, .ref a0, .int 0, .ref a4]) (by decide +kernel) rfl rfl ?_
  cases res with
  | inl v =>
    cases v with
    | none => exact no_none e
    | some w =>
      cases w with
      | int w =>
        obtain rfl := Option.some.inj e
        refine Go.callV (M2 := m_F_place) (a := a0) (as := [.int x1, .int x2, .int x3]) (rest := [.int 0, .ref a4]) (h1 := h1) (v := some (.int w)) hct wv_Q_place k0 kc_7 (by decide +kernel) rfl rfl ⟨⟨Nat.le_of_ble_eq_true rfl, Nat.le_of_ble_eq_true rfl⟩, ⟨Nat.le_of_ble_eq_true rfl, Nat.le_of_ble_eq_true rfl⟩⟩ (Nat.le_of_ble_eq_true rfl) ?_
        refine Go.run (pc' := 11) [.i2l] (ls' := [some (.ref a0), some (.int x1), some (.int x2), some (.int x3), some (.ref a4), none]) (st' := [.long w.toInt64, .int 0, .ref a4]) (by decide +kernel) rfl rfl ?_
        refine Go.last hI ko (al_13 ko) (by decide) (by decide +kernel) ?_
        refine Go.goto (off := 7) (tgt := 19) (by decide +kernel) (by decide) ?_
        refine Go.run (pc' := 20) [.iconst 0] (ls' := [some (.ref a0), some (.int x1), some (.int x2), some (.int x3), some (.ref a4), none]) (st' := [.int 0]) (by decide +kernel) rfl rfl ?_
        exact Go.iret rfl (by decide) (by decide) (by decide +kernel)
      | long w => exact no_none e
      | float w => exact no_none e
      | double w => exact no_none e
      | null => exact no_none e
      | ref w => exact no_none e
      | retAddr w => exact no_none e
  | inr E =>
    unfold wrapR at e
    dsimp only at e
    rcases Decidable.em ((["java/lang/IndexOutOfBoundsException"] : List String)[0]? = some E) with z0 | z0
    · replace e := ite_t z0 e
      obtain rfl : "java/lang/IndexOutOfBoundsException" = E := Option.some.inj z0
      obtain rfl := Option.some.inj e
      refine Go.caught (M2 := m_F_place) (a := a0) (as := [.int x1, .int x2, .int x3]) (rest := [.int 0, .ref a4]) (h1 := h1) (j := 5) (len := 2) hct wv_Q_place k0 kc_7 (by decide +kernel) rfl rfl ⟨⟨Nat.le_of_ble_eq_true rfl, Nat.le_of_ble_eq_true rfl⟩, ⟨Nat.le_of_ble_eq_true rfl, Nat.le_of_ble_eq_true rfl⟩⟩ (Nat.le_of_ble_eq_true rfl) (by decide) [] ⟨0, 12, 15, 28⟩ [] rfl (fun z hz => nomatch hz) (by decide) (by decide) cl_IndexOutOfBoundsException ca_IndexOutOfBoundsException (Or.inl ⟨by decide +kernel, rfl⟩) rfl ?_
      refine Go.run (pc' := 18) [.iconst 1] (ls' := [some (.ref a0), some (.int x1), some (.int x2), some (.int x3), some (.ref a4), none]) (st' := [.int 1]) (by decide +kernel) rfl rfl ?_
      exact Go.iret rfl (by decide) (by decide) (by decide +kernel)
    replace e := ite_f z0 e
    replace e := ite_f (show ¬ ((["java/lang/IndexOutOfBoundsException"] : List String)[1]? = some E) by simp) e
    exact no_none e
def m_Q_leave : MI := (⟨"FairWallsLaw", "leave", "(LFairWalls;I[J)I"⟩, method_16_code, 4, (some .int), 9, 2, [(0, 9, 12, 28), (0, 9, 15, 15)])
theorem cw_Q_leave : codeW m_Q_leave ∈ GT := gtb 857 (by decide +kernel) (by decide +kernel)
theorem sw_Q_leave : Cond.static m_Q_leave.y ∈ GT := gtb 856 (by decide +kernel) (by decide +kernel)
theorem wv_Q_leave : WV "FairWallsLaw" 58 m_F_leave 1 := ⟨⟨gtb 858 (by decide +kernel) (by decide +kernel), iw_F_leave, cw_F_leave, rfl, by decide +kernel, by decide +kernel⟩, nw_F_leave, vw_F_leave⟩
def f_Q_leave (h : HP) (a0 : Nat) (x1 : Int32) (a2 : Nat) : Option (Int32 × HP) := (f_F_leave h a0 x1).bind (wrapR ["java/lang/IndexOutOfBoundsException", "java/lang/IllegalStateException"] a2)
set_option maxHeartbeats 1000000 in
theorem x_Q_leave {l : Launch} {D : va_G} {ad : Nat → Nat} {aC : Nat → ClassId} (hf : l.flags = flags0) (hI : Inj ad) {h : HP} {a0 : Nat} {x1 : Int32} {a2 : Nat} {r : Int32 × HP} (k0 : knd a0 = 7) (ko : knd a2 = 13) (e : f_Q_leave h a0 x1 a2 = some r) : CT l D ad aC m_Q_leave [.ref a0, .int x1, .ref a2] h (.inl (some (.int r.1))) r.2 := by
  refine CT.ofGoH (by decide +kernel) rfl (Nat.le_of_ble_eq_true rfl) ?_
  unfold f_Q_leave at e
  show Go l D ad aC (rmk m_Q_leave) _ m_Q_leave 0 [some (.ref a0), some (.int x1), some (.ref a2), none] [] h 0 0
  obtain ⟨⟨res, h1⟩, hr, e⟩ := bd_inv e
  have hct := x_F_leave (l := l) (D := D) (ad := ad) (aC := aC) hf hI k0 hr
  refine Go.run (pc' := 4) [.aload_n 2, .iconst 0, .aload_n 0, .iload_n 1] (ls' := [some (.ref a0), some (.int x1), some (.ref a2), none]) (st' := [.int x1, .ref a0, .int 0, .ref a2]) (by decide +kernel) rfl rfl ?_
  cases res with
  | inl v =>
    cases v with
    | none => exact no_none e
    | some w =>
      cases w with
      | int w =>
        obtain rfl := Option.some.inj e
        refine Go.callV (M2 := m_F_leave) (a := a0) (as := [.int x1]) (rest := [.int 0, .ref a2]) (h1 := h1) (v := some (.int w)) hct wv_Q_leave k0 kc_7 (by decide +kernel) rfl rfl ⟨⟨Nat.le_of_ble_eq_true rfl, Nat.le_of_ble_eq_true rfl⟩, ⟨Nat.le_of_ble_eq_true rfl, Nat.le_of_ble_eq_true rfl⟩⟩ (Nat.le_of_ble_eq_true rfl) ?_
        refine Go.run (pc' := 8) [.i2l] (ls' := [some (.ref a0), some (.int x1), some (.ref a2), none]) (st' := [.long w.toInt64, .int 0, .ref a2]) (by decide +kernel) rfl rfl ?_
        refine Go.last hI ko (al_13 ko) (by decide) (by decide +kernel) ?_
        refine Go.goto (off := 9) (tgt := 18) (by decide +kernel) (by decide) ?_
        refine Go.run (pc' := 19) [.iconst 0] (ls' := [some (.ref a0), some (.int x1), some (.ref a2), none]) (st' := [.int 0]) (by decide +kernel) rfl rfl ?_
        exact Go.iret rfl (by decide) (by decide) (by decide +kernel)
      | long w => exact no_none e
      | float w => exact no_none e
      | double w => exact no_none e
      | null => exact no_none e
      | ref w => exact no_none e
      | retAddr w => exact no_none e
  | inr E =>
    unfold wrapR at e
    dsimp only at e
    rcases Decidable.em ((["java/lang/IndexOutOfBoundsException", "java/lang/IllegalStateException"] : List String)[0]? = some E) with z0 | z0
    · replace e := ite_t z0 e
      obtain rfl : "java/lang/IndexOutOfBoundsException" = E := Option.some.inj z0
      obtain rfl := Option.some.inj e
      refine Go.caught (M2 := m_F_leave) (a := a0) (as := [.int x1]) (rest := [.int 0, .ref a2]) (h1 := h1) (j := 3) (len := 1) hct wv_Q_leave k0 kc_7 (by decide +kernel) rfl rfl ⟨⟨Nat.le_of_ble_eq_true rfl, Nat.le_of_ble_eq_true rfl⟩, ⟨Nat.le_of_ble_eq_true rfl, Nat.le_of_ble_eq_true rfl⟩⟩ (Nat.le_of_ble_eq_true rfl) (by decide) [] ⟨0, 9, 12, 28⟩ [⟨0, 9, 15, 15⟩] rfl (fun z hz => nomatch hz) (by decide) (by decide) cl_IndexOutOfBoundsException ca_IndexOutOfBoundsException (Or.inr ⟨3, by decide +kernel, rfl, rfl⟩) rfl ?_
      refine Go.run (pc' := 14) [.iconst 1] (ls' := [some (.ref a0), some (.int x1), some (.ref a2), none]) (st' := [.int 1]) (by decide +kernel) rfl rfl ?_
      exact Go.iret rfl (by decide) (by decide) (by decide +kernel)
    replace e := ite_f z0 e
    rcases Decidable.em ((["java/lang/IndexOutOfBoundsException", "java/lang/IllegalStateException"] : List String)[1]? = some E) with z1 | z1
    · replace e := ite_t z1 e
      obtain rfl : "java/lang/IllegalStateException" = E := Option.some.inj z1
      obtain rfl := Option.some.inj e
      refine Go.caught (M2 := m_F_leave) (a := a0) (as := [.int x1]) (rest := [.int 0, .ref a2]) (h1 := h1) (j := 3) (len := 1) hct wv_Q_leave k0 kc_7 (by decide +kernel) rfl rfl ⟨⟨Nat.le_of_ble_eq_true rfl, Nat.le_of_ble_eq_true rfl⟩, ⟨Nat.le_of_ble_eq_true rfl, Nat.le_of_ble_eq_true rfl⟩⟩ (Nat.le_of_ble_eq_true rfl) (by decide) [⟨0, 9, 12, 28⟩] ⟨0, 9, 15, 15⟩ [] rfl (fun z hz => by have e0 := List.mem_singleton.mp hz; subst e0; exact Or.inr ⟨by decide, "java/lang/IndexOutOfBoundsException", cl_IndexOutOfBoundsException, by decide⟩) (by decide) (by decide) cl_IllegalStateException ca_IllegalStateException (Or.inr ⟨3, by decide +kernel, rfl, rfl⟩) rfl ?_
      refine Go.run (pc' := 17) [.iconst 2] (ls' := [some (.ref a0), some (.int x1), some (.ref a2), none]) (st' := [.int 2]) (by decide +kernel) rfl rfl ?_
      exact Go.iret rfl (by decide) (by decide) (by decide +kernel)
    replace e := ite_f z1 e
    exact no_none e
def m_Q_swap : MI := (⟨"FairWallsLaw", "swap", "(LFairWalls;II[J)I"⟩, method_17_code, 5, (some .int), 9, 2, [(0, 10, 13, 28), (0, 10, 17, 13)])
theorem cw_Q_swap : codeW m_Q_swap ∈ GT := gtb 866 (by decide +kernel) (by decide +kernel)
theorem sw_Q_swap : Cond.static m_Q_swap.y ∈ GT := gtb 865 (by decide +kernel) (by decide +kernel)
theorem wv_Q_swap : WV "FairWallsLaw" 61 m_F_swap 2 := ⟨⟨gtb 867 (by decide +kernel) (by decide +kernel), iw_F_swap, cw_F_swap, rfl, by decide +kernel, by decide +kernel⟩, nw_F_swap, vw_F_swap⟩
def f_Q_swap (h : HP) (a0 : Nat) (x1 : Int32) (x2 : Int32) (a3 : Nat) : Option (Int32 × HP) := (f_F_swap h a0 x1 x2).bind (wrapR ["java/lang/IndexOutOfBoundsException", "java/lang/IllegalArgumentException"] a3)
set_option maxHeartbeats 1000000 in
theorem x_Q_swap {l : Launch} {D : va_G} {ad : Nat → Nat} {aC : Nat → ClassId} (hf : l.flags = flags0) (hI : Inj ad) {h : HP} {a0 : Nat} {x1 : Int32} {x2 : Int32} {a3 : Nat} {r : Int32 × HP} (k0 : knd a0 = 7) (ko : knd a3 = 13) (e : f_Q_swap h a0 x1 x2 a3 = some r) : CT l D ad aC m_Q_swap [.ref a0, .int x1, .int x2, .ref a3] h (.inl (some (.int r.1))) r.2 := by
  refine CT.ofGoH (by decide +kernel) rfl (Nat.le_of_ble_eq_true rfl) ?_
  unfold f_Q_swap at e
  show Go l D ad aC (rmk m_Q_swap) _ m_Q_swap 0 [some (.ref a0), some (.int x1), some (.int x2), some (.ref a3), none] [] h 0 0
  obtain ⟨⟨res, h1⟩, hr, e⟩ := bd_inv e
  have hct := x_F_swap (l := l) (D := D) (ad := ad) (aC := aC) hf hI k0 hr
  refine Go.run (pc' := 5) [.aload_n 3, .iconst 0, .aload_n 0, .iload_n 1, .iload_n 2] (ls' := [some (.ref a0), some (.int x1), some (.int x2), some (.ref a3), none]) (st' := [.int x2, .int x1, .ref a0, .int 0, .ref a3]) (by decide +kernel) rfl rfl ?_
  cases res with
  | inl v =>
    cases v with
    | none => exact no_none e
    | some w =>
      cases w with
      | int w =>
        obtain rfl := Option.some.inj e
        refine Go.callV (M2 := m_F_swap) (a := a0) (as := [.int x1, .int x2]) (rest := [.int 0, .ref a3]) (h1 := h1) (v := some (.int w)) hct wv_Q_swap k0 kc_7 (by decide +kernel) rfl rfl ⟨⟨Nat.le_of_ble_eq_true rfl, Nat.le_of_ble_eq_true rfl⟩, ⟨Nat.le_of_ble_eq_true rfl, Nat.le_of_ble_eq_true rfl⟩⟩ (Nat.le_of_ble_eq_true rfl) ?_
        refine Go.run (pc' := 9) [.i2l] (ls' := [some (.ref a0), some (.int x1), some (.int x2), some (.ref a3), none]) (st' := [.long w.toInt64, .int 0, .ref a3]) (by decide +kernel) rfl rfl ?_
        refine Go.last hI ko (al_13 ko) (by decide) (by decide +kernel) ?_
        refine Go.goto (off := 11) (tgt := 21) (by decide +kernel) (by decide) ?_
        refine Go.run (pc' := 22) [.iconst 0] (ls' := [some (.ref a0), some (.int x1), some (.int x2), some (.ref a3), none]) (st' := [.int 0]) (by decide +kernel) rfl rfl ?_
        exact Go.iret rfl (by decide) (by decide) (by decide +kernel)
      | long w => exact no_none e
      | float w => exact no_none e
      | double w => exact no_none e
      | null => exact no_none e
      | ref w => exact no_none e
      | retAddr w => exact no_none e
  | inr E =>
    unfold wrapR at e
    dsimp only at e
    rcases Decidable.em ((["java/lang/IndexOutOfBoundsException", "java/lang/IllegalArgumentException"] : List String)[0]? = some E) with z0 | z0
    · replace e := ite_t z0 e
      obtain rfl : "java/lang/IndexOutOfBoundsException" = E := Option.some.inj z0
      obtain rfl := Option.some.inj e
      refine Go.caught (M2 := m_F_swap) (a := a0) (as := [.int x1, .int x2]) (rest := [.int 0, .ref a3]) (h1 := h1) (j := 4) (len := 2) hct wv_Q_swap k0 kc_7 (by decide +kernel) rfl rfl ⟨⟨Nat.le_of_ble_eq_true rfl, Nat.le_of_ble_eq_true rfl⟩, ⟨Nat.le_of_ble_eq_true rfl, Nat.le_of_ble_eq_true rfl⟩⟩ (Nat.le_of_ble_eq_true rfl) (by decide) [] ⟨0, 10, 13, 28⟩ [⟨0, 10, 17, 13⟩] rfl (fun z hz => nomatch hz) (by decide) (by decide) cl_IndexOutOfBoundsException ca_IndexOutOfBoundsException (Or.inl ⟨by decide +kernel, rfl⟩) rfl ?_
      refine Go.run (pc' := 16) [.iconst 1] (ls' := [some (.ref a0), some (.int x1), some (.int x2), some (.ref a3), none]) (st' := [.int 1]) (by decide +kernel) rfl rfl ?_
      exact Go.iret rfl (by decide) (by decide) (by decide +kernel)
    replace e := ite_f z0 e
    rcases Decidable.em ((["java/lang/IndexOutOfBoundsException", "java/lang/IllegalArgumentException"] : List String)[1]? = some E) with z1 | z1
    · replace e := ite_t z1 e
      obtain rfl : "java/lang/IllegalArgumentException" = E := Option.some.inj z1
      obtain rfl := Option.some.inj e
      refine Go.caught (M2 := m_F_swap) (a := a0) (as := [.int x1, .int x2]) (rest := [.int 0, .ref a3]) (h1 := h1) (j := 4) (len := 2) hct wv_Q_swap k0 kc_7 (by decide +kernel) rfl rfl ⟨⟨Nat.le_of_ble_eq_true rfl, Nat.le_of_ble_eq_true rfl⟩, ⟨Nat.le_of_ble_eq_true rfl, Nat.le_of_ble_eq_true rfl⟩⟩ (Nat.le_of_ble_eq_true rfl) (by decide) [⟨0, 10, 13, 28⟩] ⟨0, 10, 17, 13⟩ [] rfl (fun z hz => by have e0 := List.mem_singleton.mp hz; subst e0; exact Or.inr ⟨by decide, "java/lang/IndexOutOfBoundsException", cl_IndexOutOfBoundsException, by decide⟩) (by decide) (by decide) cl_IllegalArgumentException ca_IllegalArgumentException (Or.inl ⟨by decide +kernel, rfl⟩) rfl ?_
      refine Go.run (pc' := 20) [.iconst 2] (ls' := [some (.ref a0), some (.int x1), some (.int x2), some (.ref a3), none]) (st' := [.int 2]) (by decide +kernel) rfl rfl ?_
      exact Go.iret rfl (by decide) (by decide) (by decide +kernel)
    replace e := ite_f z1 e
    exact no_none e
def m_Q_days : MI := (⟨"FairWallsLaw", "days", "(LFairWalls;I[J)I"⟩, method_18_code, 4, (some .int), 9, 1, [(0, 9, 12, 13)])
theorem cw_Q_days : codeW m_Q_days ∈ GT := gtb 874 (by decide +kernel) (by decide +kernel)
theorem sw_Q_days : Cond.static m_Q_days.y ∈ GT := gtb 873 (by decide +kernel) (by decide +kernel)
theorem wv_Q_days : WV "FairWallsLaw" 64 m_F_days 1 := ⟨⟨gtb 875 (by decide +kernel) (by decide +kernel), iw_F_days, cw_F_days, rfl, by decide +kernel, by decide +kernel⟩, nw_F_days, vw_F_days⟩
def f_Q_days (h : HP) (a0 : Nat) (x1 : Int32) (a2 : Nat) : Option (Int32 × HP) := (f_F_days h a0 x1).bind (wrapR ["java/lang/IllegalArgumentException"] a2)
set_option maxHeartbeats 1000000 in
theorem x_Q_days {l : Launch} {D : va_G} {ad : Nat → Nat} {aC : Nat → ClassId} (hf : l.flags = flags0) (hI : Inj ad) {h : HP} {a0 : Nat} {x1 : Int32} {a2 : Nat} {r : Int32 × HP} (k0 : knd a0 = 7) (ko : knd a2 = 13) (e : f_Q_days h a0 x1 a2 = some r) : CT l D ad aC m_Q_days [.ref a0, .int x1, .ref a2] h (.inl (some (.int r.1))) r.2 := by
  refine CT.ofGoH (by decide +kernel) rfl (Nat.le_of_ble_eq_true rfl) ?_
  unfold f_Q_days at e
  show Go l D ad aC (rmk m_Q_days) _ m_Q_days 0 [some (.ref a0), some (.int x1), some (.ref a2), none] [] h 0 0
  obtain ⟨⟨res, h1⟩, hr, e⟩ := bd_inv e
  have hct := x_F_days (l := l) (D := D) (ad := ad) (aC := aC) hf hI k0 hr
  refine Go.run (pc' := 4) [.aload_n 2, .iconst 0, .aload_n 0, .iload_n 1] (ls' := [some (.ref a0), some (.int x1), some (.ref a2), none]) (st' := [.int x1, .ref a0, .int 0, .ref a2]) (by decide +kernel) rfl rfl ?_
  cases res with
  | inl v =>
    cases v with
    | none => exact no_none e
    | some w =>
      cases w with
      | int w =>
        obtain rfl := Option.some.inj e
        refine Go.callV (M2 := m_F_days) (a := a0) (as := [.int x1]) (rest := [.int 0, .ref a2]) (h1 := h1) (v := some (.int w)) hct wv_Q_days k0 kc_7 (by decide +kernel) rfl rfl ⟨⟨Nat.le_of_ble_eq_true rfl, Nat.le_of_ble_eq_true rfl⟩, ⟨Nat.le_of_ble_eq_true rfl, Nat.le_of_ble_eq_true rfl⟩⟩ (Nat.le_of_ble_eq_true rfl) ?_
        refine Go.run (pc' := 8) [.i2l] (ls' := [some (.ref a0), some (.int x1), some (.ref a2), none]) (st' := [.long w.toInt64, .int 0, .ref a2]) (by decide +kernel) rfl rfl ?_
        refine Go.last hI ko (al_13 ko) (by decide) (by decide +kernel) ?_
        refine Go.goto (off := 6) (tgt := 15) (by decide +kernel) (by decide) ?_
        refine Go.run (pc' := 16) [.iconst 0] (ls' := [some (.ref a0), some (.int x1), some (.ref a2), none]) (st' := [.int 0]) (by decide +kernel) rfl rfl ?_
        exact Go.iret rfl (by decide) (by decide) (by decide +kernel)
      | long w => exact no_none e
      | float w => exact no_none e
      | double w => exact no_none e
      | null => exact no_none e
      | ref w => exact no_none e
      | retAddr w => exact no_none e
  | inr E =>
    unfold wrapR at e
    dsimp only at e
    rcases Decidable.em ((["java/lang/IllegalArgumentException"] : List String)[0]? = some E) with z0 | z0
    · replace e := ite_t z0 e
      obtain rfl : "java/lang/IllegalArgumentException" = E := Option.some.inj z0
      obtain rfl := Option.some.inj e
      refine Go.caught (M2 := m_F_days) (a := a0) (as := [.int x1]) (rest := [.int 0, .ref a2]) (h1 := h1) (j := 3) (len := 1) hct wv_Q_days k0 kc_7 (by decide +kernel) rfl rfl ⟨⟨Nat.le_of_ble_eq_true rfl, Nat.le_of_ble_eq_true rfl⟩, ⟨Nat.le_of_ble_eq_true rfl, Nat.le_of_ble_eq_true rfl⟩⟩ (Nat.le_of_ble_eq_true rfl) (by decide) [] ⟨0, 9, 12, 13⟩ [] rfl (fun z hz => nomatch hz) (by decide) (by decide) cl_IllegalArgumentException ca_IllegalArgumentException (Or.inr ⟨3, by decide +kernel, rfl, rfl⟩) rfl ?_
      refine Go.run (pc' := 14) [.iconst 1] (ls' := [some (.ref a0), some (.int x1), some (.ref a2), none]) (st' := [.int 1]) (by decide +kernel) rfl rfl ?_
      exact Go.iret rfl (by decide) (by decide) (by decide +kernel)
    replace e := ite_f z0 e
    replace e := ite_f (show ¬ ((["java/lang/IllegalArgumentException"] : List String)[1]? = some E) by simp) e
    exact no_none e
def m_Q_set : MI := (⟨"FairWallsLaw", "set", "(LFairWalls;II[J)I"⟩, method_19_code, 5, (some .int), 9, 1, [(0, 10, 13, 13)])
theorem cw_Q_set : codeW m_Q_set ∈ GT := gtb 882 (by decide +kernel) (by decide +kernel)
theorem sw_Q_set : Cond.static m_Q_set.y ∈ GT := gtb 881 (by decide +kernel) (by decide +kernel)
theorem wv_Q_set : WV "FairWallsLaw" 67 m_F_set 2 := ⟨⟨gtb 883 (by decide +kernel) (by decide +kernel), iw_F_set, cw_F_set, rfl, by decide +kernel, by decide +kernel⟩, nw_F_set, vw_F_set⟩
def f_Q_set (h : HP) (a0 : Nat) (x1 : Int32) (x2 : Int32) (a3 : Nat) : Option (Int32 × HP) := (f_F_set h a0 x1 x2).bind (wrapR ["java/lang/IllegalArgumentException"] a3)
set_option maxHeartbeats 1000000 in
theorem x_Q_set {l : Launch} {D : va_G} {ad : Nat → Nat} {aC : Nat → ClassId} (hf : l.flags = flags0) (hI : Inj ad) {h : HP} {a0 : Nat} {x1 : Int32} {x2 : Int32} {a3 : Nat} {r : Int32 × HP} (k0 : knd a0 = 7) (ko : knd a3 = 13) (e : f_Q_set h a0 x1 x2 a3 = some r) : CT l D ad aC m_Q_set [.ref a0, .int x1, .int x2, .ref a3] h (.inl (some (.int r.1))) r.2 := by
  refine CT.ofGoH (by decide +kernel) rfl (Nat.le_of_ble_eq_true rfl) ?_
  unfold f_Q_set at e
  show Go l D ad aC (rmk m_Q_set) _ m_Q_set 0 [some (.ref a0), some (.int x1), some (.int x2), some (.ref a3), none] [] h 0 0
  obtain ⟨⟨res, h1⟩, hr, e⟩ := bd_inv e
  have hct := x_F_set (l := l) (D := D) (ad := ad) (aC := aC) hf hI k0 hr
  refine Go.run (pc' := 5) [.aload_n 3, .iconst 0, .aload_n 0, .iload_n 1, .iload_n 2] (ls' := [some (.ref a0), some (.int x1), some (.int x2), some (.ref a3), none]) (st' := [.int x2, .int x1, .ref a0, .int 0, .ref a3]) (by decide +kernel) rfl rfl ?_
  cases res with
  | inl v =>
    cases v with
    | none => exact no_none e
    | some w =>
      cases w with
      | int w =>
        obtain rfl := Option.some.inj e
        refine Go.callV (M2 := m_F_set) (a := a0) (as := [.int x1, .int x2]) (rest := [.int 0, .ref a3]) (h1 := h1) (v := some (.int w)) hct wv_Q_set k0 kc_7 (by decide +kernel) rfl rfl ⟨⟨Nat.le_of_ble_eq_true rfl, Nat.le_of_ble_eq_true rfl⟩, ⟨Nat.le_of_ble_eq_true rfl, Nat.le_of_ble_eq_true rfl⟩⟩ (Nat.le_of_ble_eq_true rfl) ?_
        refine Go.run (pc' := 9) [.i2l] (ls' := [some (.ref a0), some (.int x1), some (.int x2), some (.ref a3), none]) (st' := [.long w.toInt64, .int 0, .ref a3]) (by decide +kernel) rfl rfl ?_
        refine Go.last hI ko (al_13 ko) (by decide) (by decide +kernel) ?_
        refine Go.goto (off := 7) (tgt := 17) (by decide +kernel) (by decide) ?_
        refine Go.run (pc' := 18) [.iconst 0] (ls' := [some (.ref a0), some (.int x1), some (.int x2), some (.ref a3), none]) (st' := [.int 0]) (by decide +kernel) rfl rfl ?_
        exact Go.iret rfl (by decide) (by decide) (by decide +kernel)
      | long w => exact no_none e
      | float w => exact no_none e
      | double w => exact no_none e
      | null => exact no_none e
      | ref w => exact no_none e
      | retAddr w => exact no_none e
  | inr E =>
    unfold wrapR at e
    dsimp only at e
    rcases Decidable.em ((["java/lang/IllegalArgumentException"] : List String)[0]? = some E) with z0 | z0
    · replace e := ite_t z0 e
      obtain rfl : "java/lang/IllegalArgumentException" = E := Option.some.inj z0
      obtain rfl := Option.some.inj e
      refine Go.caught (M2 := m_F_set) (a := a0) (as := [.int x1, .int x2]) (rest := [.int 0, .ref a3]) (h1 := h1) (j := 4) (len := 2) hct wv_Q_set k0 kc_7 (by decide +kernel) rfl rfl ⟨⟨Nat.le_of_ble_eq_true rfl, Nat.le_of_ble_eq_true rfl⟩, ⟨Nat.le_of_ble_eq_true rfl, Nat.le_of_ble_eq_true rfl⟩⟩ (Nat.le_of_ble_eq_true rfl) (by decide) [] ⟨0, 10, 13, 13⟩ [] rfl (fun z hz => nomatch hz) (by decide) (by decide) cl_IllegalArgumentException ca_IllegalArgumentException (Or.inl ⟨by decide +kernel, rfl⟩) rfl ?_
      refine Go.run (pc' := 16) [.iconst 1] (ls' := [some (.ref a0), some (.int x1), some (.int x2), some (.ref a3), none]) (st' := [.int 1]) (by decide +kernel) rfl rfl ?_
      exact Go.iret rfl (by decide) (by decide) (by decide +kernel)
    replace e := ite_f z0 e
    replace e := ite_f (show ¬ ((["java/lang/IllegalArgumentException"] : List String)[1]? = some E) by simp) e
    exact no_none e
def m_Q_undo : MI := (⟨"FairWallsLaw", "undo", "(LFairWalls;[J)I"⟩, method_20_code, 3, (some .int), 9, 1, [(0, 8, 11, 15)])
theorem cw_Q_undo : codeW m_Q_undo ∈ GT := gtb 891 (by decide +kernel) (by decide +kernel)
theorem sw_Q_undo : Cond.static m_Q_undo.y ∈ GT := gtb 890 (by decide +kernel) (by decide +kernel)
theorem wv_Q_undo : WV "FairWallsLaw" 70 m_F_undo 0 := ⟨⟨gtb 892 (by decide +kernel) (by decide +kernel), iw_F_undo, cw_F_undo, rfl, by decide +kernel, by decide +kernel⟩, nw_F_undo, vw_F_undo⟩
def f_Q_undo (h : HP) (a0 : Nat) (a1 : Nat) : Option (Int32 × HP) := (f_F_undo h a0).bind (wrapR ["java/lang/IllegalStateException"] a1)
set_option maxHeartbeats 1000000 in
theorem x_Q_undo {l : Launch} {D : va_G} {ad : Nat → Nat} {aC : Nat → ClassId} (hf : l.flags = flags0) (hI : Inj ad) {h : HP} {a0 : Nat} {a1 : Nat} {r : Int32 × HP} (k0 : knd a0 = 7) (ko : knd a1 = 13) (e : f_Q_undo h a0 a1 = some r) : CT l D ad aC m_Q_undo [.ref a0, .ref a1] h (.inl (some (.int r.1))) r.2 := by
  refine CT.ofGoH (by decide +kernel) rfl (Nat.le_of_ble_eq_true rfl) ?_
  unfold f_Q_undo at e
  show Go l D ad aC (rmk m_Q_undo) _ m_Q_undo 0 [some (.ref a0), some (.ref a1), none] [] h 0 0
  obtain ⟨⟨res, h1⟩, hr, e⟩ := bd_inv e
  have hct := x_F_undo (l := l) (D := D) (ad := ad) (aC := aC) hf hI k0 hr
  refine Go.run (pc' := 3) [.aload_n 1, .iconst 0, .aload_n 0] (ls' := [some (.ref a0), some (.ref a1), none]) (st' := [.ref a0, .int 0, .ref a1]) (by decide +kernel) rfl rfl ?_
  cases res with
  | inl v =>
    cases v with
    | none => exact no_none e
    | some w =>
      cases w with
      | int w =>
        obtain rfl := Option.some.inj e
        refine Go.callV (M2 := m_F_undo) (a := a0) (as := []) (rest := [.int 0, .ref a1]) (h1 := h1) (v := some (.int w)) hct wv_Q_undo k0 kc_7 (by decide +kernel) rfl rfl ⟨⟨Nat.le_of_ble_eq_true rfl, Nat.le_of_ble_eq_true rfl⟩, ⟨Nat.le_of_ble_eq_true rfl, Nat.le_of_ble_eq_true rfl⟩⟩ (Nat.le_of_ble_eq_true rfl) ?_
        refine Go.run (pc' := 7) [.i2l] (ls' := [some (.ref a0), some (.ref a1), none]) (st' := [.long w.toInt64, .int 0, .ref a1]) (by decide +kernel) rfl rfl ?_
        refine Go.last hI ko (al_13 ko) (by decide) (by decide +kernel) ?_
        refine Go.goto (off := 6) (tgt := 14) (by decide +kernel) (by decide) ?_
        refine Go.run (pc' := 15) [.iconst 0] (ls' := [some (.ref a0), some (.ref a1), none]) (st' := [.int 0]) (by decide +kernel) rfl rfl ?_
        exact Go.iret rfl (by decide) (by decide) (by decide +kernel)
      | long w => exact no_none e
      | float w => exact no_none e
      | double w => exact no_none e
      | null => exact no_none e
      | ref w => exact no_none e
      | retAddr w => exact no_none e
  | inr E =>
    unfold wrapR at e
    dsimp only at e
    rcases Decidable.em ((["java/lang/IllegalStateException"] : List String)[0]? = some E) with z0 | z0
    · replace e := ite_t z0 e
      obtain rfl : "java/lang/IllegalStateException" = E := Option.some.inj z0
      obtain rfl := Option.some.inj e
      refine Go.caught (M2 := m_F_undo) (a := a0) (as := []) (rest := [.int 0, .ref a1]) (h1 := h1) (j := 2) (len := 1) hct wv_Q_undo k0 kc_7 (by decide +kernel) rfl rfl ⟨⟨Nat.le_of_ble_eq_true rfl, Nat.le_of_ble_eq_true rfl⟩, ⟨Nat.le_of_ble_eq_true rfl, Nat.le_of_ble_eq_true rfl⟩⟩ (Nat.le_of_ble_eq_true rfl) (by decide) [] ⟨0, 8, 11, 15⟩ [] rfl (fun z hz => nomatch hz) (by decide) (by decide) cl_IllegalStateException ca_IllegalStateException (Or.inr ⟨2, by decide +kernel, rfl, rfl⟩) rfl ?_
      refine Go.run (pc' := 13) [.iconst 1] (ls' := [some (.ref a0), some (.ref a1), none]) (st' := [.int 1]) (by decide +kernel) rfl rfl ?_
      exact Go.iret rfl (by decide) (by decide) (by decide +kernel)
    replace e := ite_f z0 e
    replace e := ite_f (show ¬ ((["java/lang/IllegalStateException"] : List String)[1]? = some E) by simp) e
    exact no_none e
def m_Q_rentIf : MI := (⟨"FairWallsLaw", "rentIf", "(LFairWalls;III[J)I"⟩, method_21_code, 6, (some .int), 9, 1, [(0, 12, 15, 28)])
theorem cw_Q_rentIf : codeW m_Q_rentIf ∈ GT := gtb 912 (by decide +kernel) (by decide +kernel)
theorem sw_Q_rentIf : Cond.static m_Q_rentIf.y ∈ GT := gtb 911 (by decide +kernel) (by decide +kernel)
theorem wv_Q_rentIf : WV "FairWallsLaw" 73 m_F_rentIf 3 := ⟨⟨gtb 913 (by decide +kernel) (by decide +kernel), iw_F_rentIf, cw_F_rentIf, rfl, by decide +kernel, by decide +kernel⟩, nw_F_rentIf, vw_F_rentIf⟩
def f_Q_rentIf (h : HP) (a0 : Nat) (x1 : Int32) (x2 : Int32) (x3 : Int32) (a4 : Nat) : Option (Int32 × HP) := (f_F_rentIf h a0 x1 x2 x3).bind (wrapR ["java/lang/IndexOutOfBoundsException"] a4)
set_option maxHeartbeats 1000000 in
theorem x_Q_rentIf {l : Launch} {D : va_G} {ad : Nat → Nat} {aC : Nat → ClassId} (hf : l.flags = flags0) (hI : Inj ad) {h : HP} {a0 : Nat} {x1 : Int32} {x2 : Int32} {x3 : Int32} {a4 : Nat} {r : Int32 × HP} (k0 : knd a0 = 7) (ko : knd a4 = 13) (e : f_Q_rentIf h a0 x1 x2 x3 a4 = some r) : CT l D ad aC m_Q_rentIf [.ref a0, .int x1, .int x2, .int x3, .ref a4] h (.inl (some (.int r.1))) r.2 := by
  refine CT.ofGoH (by decide +kernel) rfl (Nat.le_of_ble_eq_true rfl) ?_
  unfold f_Q_rentIf at e
  show Go l D ad aC (rmk m_Q_rentIf) _ m_Q_rentIf 0 [some (.ref a0), some (.int x1), some (.int x2), some (.int x3), some (.ref a4), none] [] h 0 0
  obtain ⟨⟨res, h1⟩, hr, e⟩ := bd_inv e
  have hct := x_F_rentIf (l := l) (D := D) (ad := ad) (aC := aC) hf hI k0 hr
  refine Go.run (pc' := 7) [.aload 4, .iconst 0, .aload_n 0, .iload_n 1, .iload_n 2, .iload_n 3] (ls' := [some (.ref a0), some (.int x1), some (.int x2), some (.int x3), some (.ref a4), none]) (st' := [.int x3, .int x2, .int x1, .ref a0, .int 0, .ref a4]) (by decide +kernel) rfl rfl ?_
  cases res with
  | inl v =>
    cases v with
    | none => exact no_none e
    | some w =>
      cases w with
      | int w =>
        obtain rfl := Option.some.inj e
        refine Go.callV (M2 := m_F_rentIf) (a := a0) (as := [.int x1, .int x2, .int x3]) (rest := [.int 0, .ref a4]) (h1 := h1) (v := some (.int w)) hct wv_Q_rentIf k0 kc_7 (by decide +kernel) rfl rfl ⟨⟨Nat.le_of_ble_eq_true rfl, Nat.le_of_ble_eq_true rfl⟩, ⟨Nat.le_of_ble_eq_true rfl, Nat.le_of_ble_eq_true rfl⟩⟩ (Nat.le_of_ble_eq_true rfl) ?_
        refine Go.run (pc' := 11) [.i2l] (ls' := [some (.ref a0), some (.int x1), some (.int x2), some (.int x3), some (.ref a4), none]) (st' := [.long w.toInt64, .int 0, .ref a4]) (by decide +kernel) rfl rfl ?_
        refine Go.last hI ko (al_13 ko) (by decide) (by decide +kernel) ?_
        refine Go.goto (off := 7) (tgt := 19) (by decide +kernel) (by decide) ?_
        refine Go.run (pc' := 20) [.iconst 0] (ls' := [some (.ref a0), some (.int x1), some (.int x2), some (.int x3), some (.ref a4), none]) (st' := [.int 0]) (by decide +kernel) rfl rfl ?_
        exact Go.iret rfl (by decide) (by decide) (by decide +kernel)
      | long w => exact no_none e
      | float w => exact no_none e
      | double w => exact no_none e
      | null => exact no_none e
      | ref w => exact no_none e
      | retAddr w => exact no_none e
  | inr E =>
    unfold wrapR at e
    dsimp only at e
    rcases Decidable.em ((["java/lang/IndexOutOfBoundsException"] : List String)[0]? = some E) with z0 | z0
    · replace e := ite_t z0 e
      obtain rfl : "java/lang/IndexOutOfBoundsException" = E := Option.some.inj z0
      obtain rfl := Option.some.inj e
      refine Go.caught (M2 := m_F_rentIf) (a := a0) (as := [.int x1, .int x2, .int x3]) (rest := [.int 0, .ref a4]) (h1 := h1) (j := 5) (len := 2) hct wv_Q_rentIf k0 kc_7 (by decide +kernel) rfl rfl ⟨⟨Nat.le_of_ble_eq_true rfl, Nat.le_of_ble_eq_true rfl⟩, ⟨Nat.le_of_ble_eq_true rfl, Nat.le_of_ble_eq_true rfl⟩⟩ (Nat.le_of_ble_eq_true rfl) (by decide) [] ⟨0, 12, 15, 28⟩ [] rfl (fun z hz => nomatch hz) (by decide) (by decide) cl_IndexOutOfBoundsException ca_IndexOutOfBoundsException (Or.inl ⟨by decide +kernel, rfl⟩) rfl ?_
      refine Go.run (pc' := 18) [.iconst 1] (ls' := [some (.ref a0), some (.int x1), some (.int x2), some (.int x3), some (.ref a4), none]) (st' := [.int 1]) (by decide +kernel) rfl rfl ?_
      exact Go.iret rfl (by decide) (by decide) (by decide +kernel)
    replace e := ite_f z0 e
    replace e := ite_f (show ¬ ((["java/lang/IndexOutOfBoundsException"] : List String)[1]? = some E) by simp) e
    exact no_none e
def m_Q_cheapest : MI := (⟨"FairWallsLaw", "cheapest", "(LFairWalls;II[J)I"⟩, method_22_code, 5, (some .int), 9, 2, [(0, 10, 13, 28), (0, 10, 17, 13)])
theorem cw_Q_cheapest : codeW m_Q_cheapest ∈ GT := gtb 925 (by decide +kernel) (by decide +kernel)
theorem sw_Q_cheapest : Cond.static m_Q_cheapest.y ∈ GT := gtb 924 (by decide +kernel) (by decide +kernel)
theorem wv_Q_cheapest : WV "FairWallsLaw" 76 m_F_cheapest 2 := ⟨⟨gtb 926 (by decide +kernel) (by decide +kernel), iw_F_cheapest, cw_F_cheapest, rfl, by decide +kernel, by decide +kernel⟩, nw_F_cheapest, vw_F_cheapest⟩
def f_Q_cheapest (h : HP) (a0 : Nat) (x1 : Int32) (x2 : Int32) (a3 : Nat) : Option (Int32 × HP) := (f_F_cheapest h a0 x1 x2).bind (wrapR ["java/lang/IndexOutOfBoundsException", "java/lang/IllegalArgumentException"] a3)
set_option maxHeartbeats 1000000 in
theorem x_Q_cheapest {l : Launch} {D : va_G} {ad : Nat → Nat} {aC : Nat → ClassId} (hf : l.flags = flags0) (hI : Inj ad) {h : HP} {a0 : Nat} {x1 : Int32} {x2 : Int32} {a3 : Nat} {r : Int32 × HP} (k0 : knd a0 = 7) (ko : knd a3 = 13) (e : f_Q_cheapest h a0 x1 x2 a3 = some r) : CT l D ad aC m_Q_cheapest [.ref a0, .int x1, .int x2, .ref a3] h (.inl (some (.int r.1))) r.2 := by
  refine CT.ofGoH (by decide +kernel) rfl (Nat.le_of_ble_eq_true rfl) ?_
  unfold f_Q_cheapest at e
  show Go l D ad aC (rmk m_Q_cheapest) _ m_Q_cheapest 0 [some (.ref a0), some (.int x1), some (.int x2), some (.ref a3), none] [] h 0 0
  obtain ⟨⟨res, h1⟩, hr, e⟩ := bd_inv e
  have hct := x_F_cheapest (l := l) (D := D) (ad := ad) (aC := aC) hf hI k0 hr
  refine Go.run (pc' := 5) [.aload_n 3, .iconst 0, .aload_n 0, .iload_n 1, .iload_n 2] (ls' := [some (.ref a0), some (.int x1), some (.int x2), some (.ref a3), none]) (st' := [.int x2, .int x1, .ref a0, .int 0, .ref a3]) (by decide +kernel) rfl rfl ?_
  cases res with
  | inl v =>
    cases v with
    | none => exact no_none e
    | some w =>
      cases w with
      | int w =>
        obtain rfl := Option.some.inj e
        refine Go.callV (M2 := m_F_cheapest) (a := a0) (as := [.int x1, .int x2]) (rest := [.int 0, .ref a3]) (h1 := h1) (v := some (.int w)) hct wv_Q_cheapest k0 kc_7 (by decide +kernel) rfl rfl ⟨⟨Nat.le_of_ble_eq_true rfl, Nat.le_of_ble_eq_true rfl⟩, ⟨Nat.le_of_ble_eq_true rfl, Nat.le_of_ble_eq_true rfl⟩⟩ (Nat.le_of_ble_eq_true rfl) ?_
        refine Go.run (pc' := 9) [.i2l] (ls' := [some (.ref a0), some (.int x1), some (.int x2), some (.ref a3), none]) (st' := [.long w.toInt64, .int 0, .ref a3]) (by decide +kernel) rfl rfl ?_
        refine Go.last hI ko (al_13 ko) (by decide) (by decide +kernel) ?_
        refine Go.goto (off := 11) (tgt := 21) (by decide +kernel) (by decide) ?_
        refine Go.run (pc' := 22) [.iconst 0] (ls' := [some (.ref a0), some (.int x1), some (.int x2), some (.ref a3), none]) (st' := [.int 0]) (by decide +kernel) rfl rfl ?_
        exact Go.iret rfl (by decide) (by decide) (by decide +kernel)
      | long w => exact no_none e
      | float w => exact no_none e
      | double w => exact no_none e
      | null => exact no_none e
      | ref w => exact no_none e
      | retAddr w => exact no_none e
  | inr E =>
    unfold wrapR at e
    dsimp only at e
    rcases Decidable.em ((["java/lang/IndexOutOfBoundsException", "java/lang/IllegalArgumentException"] : List String)[0]? = some E) with z0 | z0
    · replace e := ite_t z0 e
      obtain rfl : "java/lang/IndexOutOfBoundsException" = E := Option.some.inj z0
      obtain rfl := Option.some.inj e
      refine Go.caught (M2 := m_F_cheapest) (a := a0) (as := [.int x1, .int x2]) (rest := [.int 0, .ref a3]) (h1 := h1) (j := 4) (len := 2) hct wv_Q_cheapest k0 kc_7 (by decide +kernel) rfl rfl ⟨⟨Nat.le_of_ble_eq_true rfl, Nat.le_of_ble_eq_true rfl⟩, ⟨Nat.le_of_ble_eq_true rfl, Nat.le_of_ble_eq_true rfl⟩⟩ (Nat.le_of_ble_eq_true rfl) (by decide) [] ⟨0, 10, 13, 28⟩ [⟨0, 10, 17, 13⟩] rfl (fun z hz => nomatch hz) (by decide) (by decide) cl_IndexOutOfBoundsException ca_IndexOutOfBoundsException (Or.inl ⟨by decide +kernel, rfl⟩) rfl ?_
      refine Go.run (pc' := 16) [.iconst 1] (ls' := [some (.ref a0), some (.int x1), some (.int x2), some (.ref a3), none]) (st' := [.int 1]) (by decide +kernel) rfl rfl ?_
      exact Go.iret rfl (by decide) (by decide) (by decide +kernel)
    replace e := ite_f z0 e
    rcases Decidable.em ((["java/lang/IndexOutOfBoundsException", "java/lang/IllegalArgumentException"] : List String)[1]? = some E) with z1 | z1
    · replace e := ite_t z1 e
      obtain rfl : "java/lang/IllegalArgumentException" = E := Option.some.inj z1
      obtain rfl := Option.some.inj e
      refine Go.caught (M2 := m_F_cheapest) (a := a0) (as := [.int x1, .int x2]) (rest := [.int 0, .ref a3]) (h1 := h1) (j := 4) (len := 2) hct wv_Q_cheapest k0 kc_7 (by decide +kernel) rfl rfl ⟨⟨Nat.le_of_ble_eq_true rfl, Nat.le_of_ble_eq_true rfl⟩, ⟨Nat.le_of_ble_eq_true rfl, Nat.le_of_ble_eq_true rfl⟩⟩ (Nat.le_of_ble_eq_true rfl) (by decide) [⟨0, 10, 13, 28⟩] ⟨0, 10, 17, 13⟩ [] rfl (fun z hz => by have e0 := List.mem_singleton.mp hz; subst e0; exact Or.inr ⟨by decide, "java/lang/IndexOutOfBoundsException", cl_IndexOutOfBoundsException, by decide⟩) (by decide) (by decide) cl_IllegalArgumentException ca_IllegalArgumentException (Or.inl ⟨by decide +kernel, rfl⟩) rfl ?_
      refine Go.run (pc' := 20) [.iconst 2] (ls' := [some (.ref a0), some (.int x1), some (.int x2), some (.ref a3), none]) (st' := [.int 2]) (by decide +kernel) rfl rfl ?_
      exact Go.iret rfl (by decide) (by decide) (by decide +kernel)
    replace e := ite_f z1 e
    exact no_none e
def m_Q_bestSwap : MI := (⟨"FairWallsLaw", "bestSwap", "(LFairWalls;I[J)I"⟩, method_23_code, 4, (some .int), 9, 1, [(0, 9, 12, 13)])
theorem cw_Q_bestSwap : codeW m_Q_bestSwap ∈ GT := gtb 932 (by decide +kernel) (by decide +kernel)
theorem sw_Q_bestSwap : Cond.static m_Q_bestSwap.y ∈ GT := gtb 931 (by decide +kernel) (by decide +kernel)
theorem wv_Q_bestSwap : WV "FairWallsLaw" 79 m_F_bestSwap 1 := ⟨⟨gtb 933 (by decide +kernel) (by decide +kernel), iw_F_bestSwap, cw_F_bestSwap, rfl, by decide +kernel, by decide +kernel⟩, nw_F_bestSwap, vw_F_bestSwap⟩
def f_Q_bestSwap (h : HP) (a0 : Nat) (x1 : Int32) (a2 : Nat) : Option (Int32 × HP) := (f_F_bestSwap h a0 x1).bind (wrapR ["java/lang/IllegalArgumentException"] a2)
set_option maxHeartbeats 1000000 in
theorem x_Q_bestSwap {l : Launch} {D : va_G} {ad : Nat → Nat} {aC : Nat → ClassId} (hf : l.flags = flags0) (hI : Inj ad) {h : HP} {a0 : Nat} {x1 : Int32} {a2 : Nat} {r : Int32 × HP} (k0 : knd a0 = 7) (ko : knd a2 = 13) (e : f_Q_bestSwap h a0 x1 a2 = some r) : CT l D ad aC m_Q_bestSwap [.ref a0, .int x1, .ref a2] h (.inl (some (.int r.1))) r.2 := by
  refine CT.ofGoH (by decide +kernel) rfl (Nat.le_of_ble_eq_true rfl) ?_
  unfold f_Q_bestSwap at e
  show Go l D ad aC (rmk m_Q_bestSwap) _ m_Q_bestSwap 0 [some (.ref a0), some (.int x1), some (.ref a2), none] [] h 0 0
  obtain ⟨⟨res, h1⟩, hr, e⟩ := bd_inv e
  have hct := x_F_bestSwap (l := l) (D := D) (ad := ad) (aC := aC) hf hI k0 hr
  refine Go.run (pc' := 4) [.aload_n 2, .iconst 0, .aload_n 0, .iload_n 1] (ls' := [some (.ref a0), some (.int x1), some (.ref a2), none]) (st' := [.int x1, .ref a0, .int 0, .ref a2]) (by decide +kernel) rfl rfl ?_
  cases res with
  | inl v =>
    cases v with
    | none => exact no_none e
    | some w =>
      cases w with
      | int w =>
        obtain rfl := Option.some.inj e
        refine Go.callV (M2 := m_F_bestSwap) (a := a0) (as := [.int x1]) (rest := [.int 0, .ref a2]) (h1 := h1) (v := some (.int w)) hct wv_Q_bestSwap k0 kc_7 (by decide +kernel) rfl rfl ⟨⟨Nat.le_of_ble_eq_true rfl, Nat.le_of_ble_eq_true rfl⟩, ⟨Nat.le_of_ble_eq_true rfl, Nat.le_of_ble_eq_true rfl⟩⟩ (Nat.le_of_ble_eq_true rfl) ?_
        refine Go.run (pc' := 8) [.i2l] (ls' := [some (.ref a0), some (.int x1), some (.ref a2), none]) (st' := [.long w.toInt64, .int 0, .ref a2]) (by decide +kernel) rfl rfl ?_
        refine Go.last hI ko (al_13 ko) (by decide) (by decide +kernel) ?_
        refine Go.goto (off := 6) (tgt := 15) (by decide +kernel) (by decide) ?_
        refine Go.run (pc' := 16) [.iconst 0] (ls' := [some (.ref a0), some (.int x1), some (.ref a2), none]) (st' := [.int 0]) (by decide +kernel) rfl rfl ?_
        exact Go.iret rfl (by decide) (by decide) (by decide +kernel)
      | long w => exact no_none e
      | float w => exact no_none e
      | double w => exact no_none e
      | null => exact no_none e
      | ref w => exact no_none e
      | retAddr w => exact no_none e
  | inr E =>
    unfold wrapR at e
    dsimp only at e
    rcases Decidable.em ((["java/lang/IllegalArgumentException"] : List String)[0]? = some E) with z0 | z0
    · replace e := ite_t z0 e
      obtain rfl : "java/lang/IllegalArgumentException" = E := Option.some.inj z0
      obtain rfl := Option.some.inj e
      refine Go.caught (M2 := m_F_bestSwap) (a := a0) (as := [.int x1]) (rest := [.int 0, .ref a2]) (h1 := h1) (j := 3) (len := 1) hct wv_Q_bestSwap k0 kc_7 (by decide +kernel) rfl rfl ⟨⟨Nat.le_of_ble_eq_true rfl, Nat.le_of_ble_eq_true rfl⟩, ⟨Nat.le_of_ble_eq_true rfl, Nat.le_of_ble_eq_true rfl⟩⟩ (Nat.le_of_ble_eq_true rfl) (by decide) [] ⟨0, 9, 12, 13⟩ [] rfl (fun z hz => nomatch hz) (by decide) (by decide) cl_IllegalArgumentException ca_IllegalArgumentException (Or.inr ⟨3, by decide +kernel, rfl, rfl⟩) rfl ?_
      refine Go.run (pc' := 14) [.iconst 1] (ls' := [some (.ref a0), some (.int x1), some (.ref a2), none]) (st' := [.int 1]) (by decide +kernel) rfl rfl ?_
      exact Go.iret rfl (by decide) (by decide) (by decide +kernel)
    replace e := ite_f z0 e
    replace e := ite_f (show ¬ ((["java/lang/IllegalArgumentException"] : List String)[1]? = some E) by simp) e
    exact no_none e
def m_Q_why : MI := (⟨"FairWallsLaw", "why", "(LFairWalls;II[J)I"⟩, method_24_code, 5, (some .int), 9, 2, [(0, 10, 13, 28), (0, 10, 17, 13)])
theorem cw_Q_why : codeW m_Q_why ∈ GT := gtb 944 (by decide +kernel) (by decide +kernel)
theorem sw_Q_why : Cond.static m_Q_why.y ∈ GT := gtb 943 (by decide +kernel) (by decide +kernel)
theorem wv_Q_why : WV "FairWallsLaw" 82 m_F_why 2 := ⟨⟨gtb 945 (by decide +kernel) (by decide +kernel), iw_F_why, cw_F_why, rfl, by decide +kernel, by decide +kernel⟩, nw_F_why, vw_F_why⟩
def f_Q_why (h : HP) (a0 : Nat) (x1 : Int32) (x2 : Int32) (a3 : Nat) : Option (Int32 × HP) := (f_F_why h a0 x1 x2).bind (wrapR ["java/lang/IndexOutOfBoundsException", "java/lang/IllegalArgumentException"] a3)
set_option maxHeartbeats 1000000 in
theorem x_Q_why {l : Launch} {D : va_G} {ad : Nat → Nat} {aC : Nat → ClassId} (hf : l.flags = flags0) (hI : Inj ad) {h : HP} {a0 : Nat} {x1 : Int32} {x2 : Int32} {a3 : Nat} {r : Int32 × HP} (k0 : knd a0 = 7) (ko : knd a3 = 13) (e : f_Q_why h a0 x1 x2 a3 = some r) : CT l D ad aC m_Q_why [.ref a0, .int x1, .int x2, .ref a3] h (.inl (some (.int r.1))) r.2 := by
  refine CT.ofGoH (by decide +kernel) rfl (Nat.le_of_ble_eq_true rfl) ?_
  unfold f_Q_why at e
  show Go l D ad aC (rmk m_Q_why) _ m_Q_why 0 [some (.ref a0), some (.int x1), some (.int x2), some (.ref a3), none] [] h 0 0
  obtain ⟨⟨res, h1⟩, hr, e⟩ := bd_inv e
  have hct := x_F_why (l := l) (D := D) (ad := ad) (aC := aC) hf hI k0 hr
  refine Go.run (pc' := 5) [.aload_n 3, .iconst 0, .aload_n 0, .iload_n 1, .iload_n 2] (ls' := [some (.ref a0), some (.int x1), some (.int x2), some (.ref a3), none]) (st' := [.int x2, .int x1, .ref a0, .int 0, .ref a3]) (by decide +kernel) rfl rfl ?_
  cases res with
  | inl v =>
    cases v with
    | none => exact no_none e
    | some w =>
      cases w with
      | int w =>
        obtain rfl := Option.some.inj e
        refine Go.callV (M2 := m_F_why) (a := a0) (as := [.int x1, .int x2]) (rest := [.int 0, .ref a3]) (h1 := h1) (v := some (.int w)) hct wv_Q_why k0 kc_7 (by decide +kernel) rfl rfl ⟨⟨Nat.le_of_ble_eq_true rfl, Nat.le_of_ble_eq_true rfl⟩, ⟨Nat.le_of_ble_eq_true rfl, Nat.le_of_ble_eq_true rfl⟩⟩ (Nat.le_of_ble_eq_true rfl) ?_
        refine Go.run (pc' := 9) [.i2l] (ls' := [some (.ref a0), some (.int x1), some (.int x2), some (.ref a3), none]) (st' := [.long w.toInt64, .int 0, .ref a3]) (by decide +kernel) rfl rfl ?_
        refine Go.last hI ko (al_13 ko) (by decide) (by decide +kernel) ?_
        refine Go.goto (off := 11) (tgt := 21) (by decide +kernel) (by decide) ?_
        refine Go.run (pc' := 22) [.iconst 0] (ls' := [some (.ref a0), some (.int x1), some (.int x2), some (.ref a3), none]) (st' := [.int 0]) (by decide +kernel) rfl rfl ?_
        exact Go.iret rfl (by decide) (by decide) (by decide +kernel)
      | long w => exact no_none e
      | float w => exact no_none e
      | double w => exact no_none e
      | null => exact no_none e
      | ref w => exact no_none e
      | retAddr w => exact no_none e
  | inr E =>
    unfold wrapR at e
    dsimp only at e
    rcases Decidable.em ((["java/lang/IndexOutOfBoundsException", "java/lang/IllegalArgumentException"] : List String)[0]? = some E) with z0 | z0
    · replace e := ite_t z0 e
      obtain rfl : "java/lang/IndexOutOfBoundsException" = E := Option.some.inj z0
      obtain rfl := Option.some.inj e
      refine Go.caught (M2 := m_F_why) (a := a0) (as := [.int x1, .int x2]) (rest := [.int 0, .ref a3]) (h1 := h1) (j := 4) (len := 2) hct wv_Q_why k0 kc_7 (by decide +kernel) rfl rfl ⟨⟨Nat.le_of_ble_eq_true rfl, Nat.le_of_ble_eq_true rfl⟩, ⟨Nat.le_of_ble_eq_true rfl, Nat.le_of_ble_eq_true rfl⟩⟩ (Nat.le_of_ble_eq_true rfl) (by decide) [] ⟨0, 10, 13, 28⟩ [⟨0, 10, 17, 13⟩] rfl (fun z hz => nomatch hz) (by decide) (by decide) cl_IndexOutOfBoundsException ca_IndexOutOfBoundsException (Or.inl ⟨by decide +kernel, rfl⟩) rfl ?_
      refine Go.run (pc' := 16) [.iconst 1] (ls' := [some (.ref a0), some (.int x1), some (.int x2), some (.ref a3), none]) (st' := [.int 1]) (by decide +kernel) rfl rfl ?_
      exact Go.iret rfl (by decide) (by decide) (by decide +kernel)
    replace e := ite_f z0 e
    rcases Decidable.em ((["java/lang/IndexOutOfBoundsException", "java/lang/IllegalArgumentException"] : List String)[1]? = some E) with z1 | z1
    · replace e := ite_t z1 e
      obtain rfl : "java/lang/IllegalArgumentException" = E := Option.some.inj z1
      obtain rfl := Option.some.inj e
      refine Go.caught (M2 := m_F_why) (a := a0) (as := [.int x1, .int x2]) (rest := [.int 0, .ref a3]) (h1 := h1) (j := 4) (len := 2) hct wv_Q_why k0 kc_7 (by decide +kernel) rfl rfl ⟨⟨Nat.le_of_ble_eq_true rfl, Nat.le_of_ble_eq_true rfl⟩, ⟨Nat.le_of_ble_eq_true rfl, Nat.le_of_ble_eq_true rfl⟩⟩ (Nat.le_of_ble_eq_true rfl) (by decide) [⟨0, 10, 13, 28⟩] ⟨0, 10, 17, 13⟩ [] rfl (fun z hz => by have e0 := List.mem_singleton.mp hz; subst e0; exact Or.inr ⟨by decide, "java/lang/IndexOutOfBoundsException", cl_IndexOutOfBoundsException, by decide⟩) (by decide) (by decide) cl_IllegalArgumentException ca_IllegalArgumentException (Or.inl ⟨by decide +kernel, rfl⟩) rfl ?_
      refine Go.run (pc' := 20) [.iconst 2] (ls' := [some (.ref a0), some (.int x1), some (.int x2), some (.ref a3), none]) (st' := [.int 2]) (by decide +kernel) rfl rfl ?_
      exact Go.iret rfl (by decide) (by decide) (by decide +kernel)
    replace e := ite_f z1 e
    exact no_none e
def m_Q_runScript : MI := (⟨"FairWallsLaw", "runScript", "(LFairWalls;IJ[J)I"⟩, method_25_code, 6, (some .int), 9, 2, [(0, 11, 14, 13)])
theorem cw_Q_runScript : codeW m_Q_runScript ∈ GT := gtb 951 (by decide +kernel) (by decide +kernel)
theorem sw_Q_runScript : Cond.static m_Q_runScript.y ∈ GT := gtb 950 (by decide +kernel) (by decide +kernel)
theorem wv_Q_runScript : WV "FairWallsLaw" 85 m_F_runScript 2 := ⟨⟨gtb 952 (by decide +kernel) (by decide +kernel), iw_F_runScript, cw_F_runScript, rfl, by decide +kernel, by decide +kernel⟩, nw_F_runScript, vw_F_runScript⟩
def f_Q_runScript (h : HP) (a0 : Nat) (x1 : Int32) (y2 : Int64) (a4 : Nat) : Option (Int32 × HP) := (f_F_runScript h a0 x1 y2).bind (wrapR ["java/lang/IllegalArgumentException"] a4)
set_option maxHeartbeats 1000000 in
theorem x_Q_runScript {l : Launch} {D : va_G} {ad : Nat → Nat} {aC : Nat → ClassId} (hf : l.flags = flags0) (hI : Inj ad) {h : HP} {a0 : Nat} {x1 : Int32} {y2 : Int64} {a4 : Nat} {r : Int32 × HP} (k0 : knd a0 = 7) (ko : knd a4 = 13) (e : f_Q_runScript h a0 x1 y2 a4 = some r) : CT l D ad aC m_Q_runScript [.ref a0, .int x1, .long y2, .ref a4] h (.inl (some (.int r.1))) r.2 := by
  refine CT.ofGoH (by decide +kernel) rfl (Nat.le_of_ble_eq_true rfl) ?_
  unfold f_Q_runScript at e
  show Go l D ad aC (rmk m_Q_runScript) _ m_Q_runScript 0 [some (.ref a0), some (.int x1), some (.long y2), none, some (.ref a4), none] [] h 0 0
  obtain ⟨⟨res, h1⟩, hr, e⟩ := bd_inv e
  have hct := x_F_runScript (l := l) (D := D) (ad := ad) (aC := aC) hf hI k0 hr
  refine Go.run (pc' := 6) [.aload 4, .iconst 0, .aload_n 0, .iload_n 1, .lload_n 2] (ls' := [some (.ref a0), some (.int x1), some (.long y2), none, some (.ref a4), none]) (st' := [.long y2, .int x1, .ref a0, .int 0, .ref a4]) (by decide +kernel) rfl rfl ?_
  cases res with
  | inl v =>
    cases v with
    | none => exact no_none e
    | some w =>
      cases w with
      | int w =>
        obtain rfl := Option.some.inj e
        refine Go.callV (M2 := m_F_runScript) (a := a0) (as := [.int x1, .long y2]) (rest := [.int 0, .ref a4]) (h1 := h1) (v := some (.int w)) hct wv_Q_runScript k0 kc_7 (by decide +kernel) rfl rfl ⟨⟨Nat.le_of_ble_eq_true rfl, Nat.le_of_ble_eq_true rfl⟩, ⟨Nat.le_of_ble_eq_true rfl, Nat.le_of_ble_eq_true rfl⟩⟩ (Nat.le_of_ble_eq_true rfl) ?_
        refine Go.run (pc' := 10) [.i2l] (ls' := [some (.ref a0), some (.int x1), some (.long y2), none, some (.ref a4), none]) (st' := [.long w.toInt64, .int 0, .ref a4]) (by decide +kernel) rfl rfl ?_
        refine Go.last hI ko (al_13 ko) (by decide) (by decide +kernel) ?_
        refine Go.goto (off := 7) (tgt := 18) (by decide +kernel) (by decide) ?_
        refine Go.run (pc' := 19) [.iconst 0] (ls' := [some (.ref a0), some (.int x1), some (.long y2), none, some (.ref a4), none]) (st' := [.int 0]) (by decide +kernel) rfl rfl ?_
        exact Go.iret rfl (by decide) (by decide) (by decide +kernel)
      | long w => exact no_none e
      | float w => exact no_none e
      | double w => exact no_none e
      | null => exact no_none e
      | ref w => exact no_none e
      | retAddr w => exact no_none e
  | inr E =>
    unfold wrapR at e
    dsimp only at e
    rcases Decidable.em ((["java/lang/IllegalArgumentException"] : List String)[0]? = some E) with z0 | z0
    · replace e := ite_t z0 e
      obtain rfl : "java/lang/IllegalArgumentException" = E := Option.some.inj z0
      obtain rfl := Option.some.inj e
      refine Go.caught (M2 := m_F_runScript) (a := a0) (as := [.int x1, .long y2]) (rest := [.int 0, .ref a4]) (h1 := h1) (j := 5) (len := 2) hct wv_Q_runScript k0 kc_7 (by decide +kernel) rfl rfl ⟨⟨Nat.le_of_ble_eq_true rfl, Nat.le_of_ble_eq_true rfl⟩, ⟨Nat.le_of_ble_eq_true rfl, Nat.le_of_ble_eq_true rfl⟩⟩ (Nat.le_of_ble_eq_true rfl) (by decide) [] ⟨0, 11, 14, 13⟩ [] rfl (fun z hz => nomatch hz) (by decide) (by decide) cl_IllegalArgumentException ca_IllegalArgumentException (Or.inl ⟨by decide +kernel, rfl⟩) rfl ?_
      refine Go.run (pc' := 17) [.iconst 1] (ls' := [some (.ref a0), some (.int x1), some (.long y2), none, some (.ref a4), none]) (st' := [.int 1]) (by decide +kernel) rfl rfl ?_
      exact Go.iret rfl (by decide) (by decide) (by decide +kernel)
    replace e := ite_f z0 e
    replace e := ite_f (show ¬ ((["java/lang/IllegalArgumentException"] : List String)[1]? = some E) by simp) e
    exact no_none e
def m_Q_simulate : MI := (⟨"FairWallsLaw", "simulate", "(LFairWalls;JI[J)I"⟩, method_26_code, 6, (some .int), 9, 1, [(0, 11, 14, 13)])
theorem cw_Q_simulate : codeW m_Q_simulate ∈ GT := gtb 971 (by decide +kernel) (by decide +kernel)
theorem sw_Q_simulate : Cond.static m_Q_simulate.y ∈ GT := gtb 970 (by decide +kernel) (by decide +kernel)
theorem wv_Q_simulate : WV "FairWallsLaw" 89 m_F_simulate 2 := ⟨⟨gtb 972 (by decide +kernel) (by decide +kernel), iw_F_simulate, cw_F_simulate, rfl, by decide +kernel, by decide +kernel⟩, nw_F_simulate, vw_F_simulate⟩
def f_Q_simulate (h : HP) (a0 : Nat) (y1 : Int64) (x3 : Int32) (a4 : Nat) : Option (Int32 × HP) := (f_F_simulate h a0 y1 x3).bind (wrapR ["java/lang/IllegalArgumentException"] a4)
set_option maxHeartbeats 1000000 in
theorem x_Q_simulate {l : Launch} {D : va_G} {ad : Nat → Nat} {aC : Nat → ClassId} (hf : l.flags = flags0) (hI : Inj ad) {h : HP} {a0 : Nat} {y1 : Int64} {x3 : Int32} {a4 : Nat} {r : Int32 × HP} (k0 : knd a0 = 7) (ko : knd a4 = 13) (e : f_Q_simulate h a0 y1 x3 a4 = some r) : CT l D ad aC m_Q_simulate [.ref a0, .long y1, .int x3, .ref a4] h (.inl (some (.int r.1))) r.2 := by
  refine CT.ofGoH (by decide +kernel) rfl (Nat.le_of_ble_eq_true rfl) ?_
  unfold f_Q_simulate at e
  show Go l D ad aC (rmk m_Q_simulate) _ m_Q_simulate 0 [some (.ref a0), some (.long y1), none, some (.int x3), some (.ref a4), none] [] h 0 0
  obtain ⟨⟨res, h1⟩, hr, e⟩ := bd_inv e
  have hct := x_F_simulate (l := l) (D := D) (ad := ad) (aC := aC) hf hI k0 hr
  refine Go.run (pc' := 6) [.aload 4, .iconst 0, .aload_n 0, .lload_n 1, .iload_n 3] (ls' := [some (.ref a0), some (.long y1), none, some (.int x3), some (.ref a4), none]) (st' := [.int x3, .long y1, .ref a0, .int 0, .ref a4]) (by decide +kernel) rfl rfl ?_
  cases res with
  | inl v =>
    cases v with
    | none => exact no_none e
    | some w =>
      cases w with
      | int w =>
        obtain rfl := Option.some.inj e
        refine Go.callV (M2 := m_F_simulate) (a := a0) (as := [.long y1, .int x3]) (rest := [.int 0, .ref a4]) (h1 := h1) (v := some (.int w)) hct wv_Q_simulate k0 kc_7 (by decide +kernel) rfl rfl ⟨⟨Nat.le_of_ble_eq_true rfl, Nat.le_of_ble_eq_true rfl⟩, ⟨Nat.le_of_ble_eq_true rfl, Nat.le_of_ble_eq_true rfl⟩⟩ (Nat.le_of_ble_eq_true rfl) ?_
        refine Go.run (pc' := 10) [.i2l] (ls' := [some (.ref a0), some (.long y1), none, some (.int x3), some (.ref a4), none]) (st' := [.long w.toInt64, .int 0, .ref a4]) (by decide +kernel) rfl rfl ?_
        refine Go.last hI ko (al_13 ko) (by decide) (by decide +kernel) ?_
        refine Go.goto (off := 7) (tgt := 18) (by decide +kernel) (by decide) ?_
        refine Go.run (pc' := 19) [.iconst 0] (ls' := [some (.ref a0), some (.long y1), none, some (.int x3), some (.ref a4), none]) (st' := [.int 0]) (by decide +kernel) rfl rfl ?_
        exact Go.iret rfl (by decide) (by decide) (by decide +kernel)
      | long w => exact no_none e
      | float w => exact no_none e
      | double w => exact no_none e
      | null => exact no_none e
      | ref w => exact no_none e
      | retAddr w => exact no_none e
  | inr E =>
    unfold wrapR at e
    dsimp only at e
    rcases Decidable.em ((["java/lang/IllegalArgumentException"] : List String)[0]? = some E) with z0 | z0
    · replace e := ite_t z0 e
      obtain rfl : "java/lang/IllegalArgumentException" = E := Option.some.inj z0
      obtain rfl := Option.some.inj e
      refine Go.caught (M2 := m_F_simulate) (a := a0) (as := [.long y1, .int x3]) (rest := [.int 0, .ref a4]) (h1 := h1) (j := 5) (len := 2) hct wv_Q_simulate k0 kc_7 (by decide +kernel) rfl rfl ⟨⟨Nat.le_of_ble_eq_true rfl, Nat.le_of_ble_eq_true rfl⟩, ⟨Nat.le_of_ble_eq_true rfl, Nat.le_of_ble_eq_true rfl⟩⟩ (Nat.le_of_ble_eq_true rfl) (by decide) [] ⟨0, 11, 14, 13⟩ [] rfl (fun z hz => nomatch hz) (by decide) (by decide) cl_IllegalArgumentException ca_IllegalArgumentException (Or.inl ⟨by decide +kernel, rfl⟩) rfl ?_
      refine Go.run (pc' := 17) [.iconst 1] (ls' := [some (.ref a0), some (.long y1), none, some (.int x3), some (.ref a4), none]) (st' := [.int 1]) (by decide +kernel) rfl rfl ?_
      exact Go.iret rfl (by decide) (by decide) (by decide +kernel)
    replace e := ite_f z0 e
    replace e := ite_f (show ¬ ((["java/lang/IllegalArgumentException"] : List String)[1]? = some E) by simp) e
    exact no_none e
def m_Q_save : MI := (⟨"FairWallsLaw", "save", "(LFairWalls;I[J)I"⟩, method_27_code, 4, (some .int), 9, 1, [(0, 9, 12, 28)])
theorem cw_Q_save : codeW m_Q_save ∈ GT := gtb 983 (by decide +kernel) (by decide +kernel)
theorem sw_Q_save : Cond.static m_Q_save.y ∈ GT := gtb 982 (by decide +kernel) (by decide +kernel)
theorem wv_Q_save : WV "FairWallsLaw" 93 m_F_save 1 := ⟨⟨gtb 984 (by decide +kernel) (by decide +kernel), iw_F_save, cw_F_save, rfl, by decide +kernel, by decide +kernel⟩, nw_F_save, vw_F_save⟩
def f_Q_save (h : HP) (a0 : Nat) (x1 : Int32) (a2 : Nat) : Option (Int32 × HP) := (f_F_save h a0 x1).bind (wrapR ["java/lang/IndexOutOfBoundsException"] a2)
set_option maxHeartbeats 1000000 in
theorem x_Q_save {l : Launch} {D : va_G} {ad : Nat → Nat} {aC : Nat → ClassId} (hf : l.flags = flags0) (hI : Inj ad) {h : HP} {a0 : Nat} {x1 : Int32} {a2 : Nat} {r : Int32 × HP} (k0 : knd a0 = 7) (ko : knd a2 = 13) (e : f_Q_save h a0 x1 a2 = some r) : CT l D ad aC m_Q_save [.ref a0, .int x1, .ref a2] h (.inl (some (.int r.1))) r.2 := by
  refine CT.ofGoH (by decide +kernel) rfl (Nat.le_of_ble_eq_true rfl) ?_
  unfold f_Q_save at e
  show Go l D ad aC (rmk m_Q_save) _ m_Q_save 0 [some (.ref a0), some (.int x1), some (.ref a2), none] [] h 0 0
  obtain ⟨⟨res, h1⟩, hr, e⟩ := bd_inv e
  have hct := x_F_save (l := l) (D := D) (ad := ad) (aC := aC) hf hI k0 hr
  refine Go.run (pc' := 4) [.aload_n 2, .iconst 0, .aload_n 0, .iload_n 1] (ls' := [some (.ref a0), some (.int x1), some (.ref a2), none]) (st' := [.int x1, .ref a0, .int 0, .ref a2]) (by decide +kernel) rfl rfl ?_
  cases res with
  | inl v =>
    cases v with
    | none => exact no_none e
    | some w =>
      cases w with
      | int w =>
        obtain rfl := Option.some.inj e
        refine Go.callV (M2 := m_F_save) (a := a0) (as := [.int x1]) (rest := [.int 0, .ref a2]) (h1 := h1) (v := some (.int w)) hct wv_Q_save k0 kc_7 (by decide +kernel) rfl rfl ⟨⟨Nat.le_of_ble_eq_true rfl, Nat.le_of_ble_eq_true rfl⟩, ⟨Nat.le_of_ble_eq_true rfl, Nat.le_of_ble_eq_true rfl⟩⟩ (Nat.le_of_ble_eq_true rfl) ?_
        refine Go.run (pc' := 8) [.i2l] (ls' := [some (.ref a0), some (.int x1), some (.ref a2), none]) (st' := [.long w.toInt64, .int 0, .ref a2]) (by decide +kernel) rfl rfl ?_
        refine Go.last hI ko (al_13 ko) (by decide) (by decide +kernel) ?_
        refine Go.goto (off := 6) (tgt := 15) (by decide +kernel) (by decide) ?_
        refine Go.run (pc' := 16) [.iconst 0] (ls' := [some (.ref a0), some (.int x1), some (.ref a2), none]) (st' := [.int 0]) (by decide +kernel) rfl rfl ?_
        exact Go.iret rfl (by decide) (by decide) (by decide +kernel)
      | long w => exact no_none e
      | float w => exact no_none e
      | double w => exact no_none e
      | null => exact no_none e
      | ref w => exact no_none e
      | retAddr w => exact no_none e
  | inr E =>
    unfold wrapR at e
    dsimp only at e
    rcases Decidable.em ((["java/lang/IndexOutOfBoundsException"] : List String)[0]? = some E) with z0 | z0
    · replace e := ite_t z0 e
      obtain rfl : "java/lang/IndexOutOfBoundsException" = E := Option.some.inj z0
      obtain rfl := Option.some.inj e
      refine Go.caught (M2 := m_F_save) (a := a0) (as := [.int x1]) (rest := [.int 0, .ref a2]) (h1 := h1) (j := 3) (len := 1) hct wv_Q_save k0 kc_7 (by decide +kernel) rfl rfl ⟨⟨Nat.le_of_ble_eq_true rfl, Nat.le_of_ble_eq_true rfl⟩, ⟨Nat.le_of_ble_eq_true rfl, Nat.le_of_ble_eq_true rfl⟩⟩ (Nat.le_of_ble_eq_true rfl) (by decide) [] ⟨0, 9, 12, 28⟩ [] rfl (fun z hz => nomatch hz) (by decide) (by decide) cl_IndexOutOfBoundsException ca_IndexOutOfBoundsException (Or.inr ⟨3, by decide +kernel, rfl, rfl⟩) rfl ?_
      refine Go.run (pc' := 14) [.iconst 1] (ls' := [some (.ref a0), some (.int x1), some (.ref a2), none]) (st' := [.int 1]) (by decide +kernel) rfl rfl ?_
      exact Go.iret rfl (by decide) (by decide) (by decide +kernel)
    replace e := ite_f z0 e
    replace e := ite_f (show ¬ ((["java/lang/IndexOutOfBoundsException"] : List String)[1]? = some E) by simp) e
    exact no_none e
def m_Q_restore : MI := (⟨"FairWallsLaw", "restore", "(LFairWalls;I[J)I"⟩, method_28_code, 4, (some .int), 9, 2, [(0, 9, 12, 28), (0, 9, 15, 15)])
theorem cw_Q_restore : codeW m_Q_restore ∈ GT := gtb 996 (by decide +kernel) (by decide +kernel)
theorem sw_Q_restore : Cond.static m_Q_restore.y ∈ GT := gtb 995 (by decide +kernel) (by decide +kernel)
theorem wv_Q_restore : WV "FairWallsLaw" 96 m_F_restore 1 := ⟨⟨gtb 997 (by decide +kernel) (by decide +kernel), iw_F_restore, cw_F_restore, rfl, by decide +kernel, by decide +kernel⟩, nw_F_restore, vw_F_restore⟩
def f_Q_restore (h : HP) (a0 : Nat) (x1 : Int32) (a2 : Nat) : Option (Int32 × HP) := (f_F_restore h a0 x1).bind (wrapR ["java/lang/IndexOutOfBoundsException", "java/lang/IllegalStateException"] a2)
set_option maxHeartbeats 1000000 in
theorem x_Q_restore {l : Launch} {D : va_G} {ad : Nat → Nat} {aC : Nat → ClassId} (hf : l.flags = flags0) (hI : Inj ad) {h : HP} {a0 : Nat} {x1 : Int32} {a2 : Nat} {r : Int32 × HP} (k0 : knd a0 = 7) (ko : knd a2 = 13) (e : f_Q_restore h a0 x1 a2 = some r) : CT l D ad aC m_Q_restore [.ref a0, .int x1, .ref a2] h (.inl (some (.int r.1))) r.2 := by
  refine CT.ofGoH (by decide +kernel) rfl (Nat.le_of_ble_eq_true rfl) ?_
  unfold f_Q_restore at e
  show Go l D ad aC (rmk m_Q_restore) _ m_Q_restore 0 [some (.ref a0), some (.int x1), some (.ref a2), none] [] h 0 0
  obtain ⟨⟨res, h1⟩, hr, e⟩ := bd_inv e
  have hct := x_F_restore (l := l) (D := D) (ad := ad) (aC := aC) hf hI k0 hr
  refine Go.run (pc' := 4) [.aload_n 2, .iconst 0, .aload_n 0, .iload_n 1] (ls' := [some (.ref a0), some (.int x1), some (.ref a2), none]) (st' := [.int x1, .ref a0, .int 0, .ref a2]) (by decide +kernel) rfl rfl ?_
  cases res with
  | inl v =>
    cases v with
    | none => exact no_none e
    | some w =>
      cases w with
      | int w =>
        obtain rfl := Option.some.inj e
        refine Go.callV (M2 := m_F_restore) (a := a0) (as := [.int x1]) (rest := [.int 0, .ref a2]) (h1 := h1) (v := some (.int w)) hct wv_Q_restore k0 kc_7 (by decide +kernel) rfl rfl ⟨⟨Nat.le_of_ble_eq_true rfl, Nat.le_of_ble_eq_true rfl⟩, ⟨Nat.le_of_ble_eq_true rfl, Nat.le_of_ble_eq_true rfl⟩⟩ (Nat.le_of_ble_eq_true rfl) ?_
        refine Go.run (pc' := 8) [.i2l] (ls' := [some (.ref a0), some (.int x1), some (.ref a2), none]) (st' := [.long w.toInt64, .int 0, .ref a2]) (by decide +kernel) rfl rfl ?_
        refine Go.last hI ko (al_13 ko) (by decide) (by decide +kernel) ?_
        refine Go.goto (off := 9) (tgt := 18) (by decide +kernel) (by decide) ?_
        refine Go.run (pc' := 19) [.iconst 0] (ls' := [some (.ref a0), some (.int x1), some (.ref a2), none]) (st' := [.int 0]) (by decide +kernel) rfl rfl ?_
        exact Go.iret rfl (by decide) (by decide) (by decide +kernel)
      | long w => exact no_none e
      | float w => exact no_none e
      | double w => exact no_none e
      | null => exact no_none e
      | ref w => exact no_none e
      | retAddr w => exact no_none e
  | inr E =>
    unfold wrapR at e
    dsimp only at e
    rcases Decidable.em ((["java/lang/IndexOutOfBoundsException", "java/lang/IllegalStateException"] : List String)[0]? = some E) with z0 | z0
    · replace e := ite_t z0 e
      obtain rfl : "java/lang/IndexOutOfBoundsException" = E := Option.some.inj z0
      obtain rfl := Option.some.inj e
      refine Go.caught (M2 := m_F_restore) (a := a0) (as := [.int x1]) (rest := [.int 0, .ref a2]) (h1 := h1) (j := 3) (len := 1) hct wv_Q_restore k0 kc_7 (by decide +kernel) rfl rfl ⟨⟨Nat.le_of_ble_eq_true rfl, Nat.le_of_ble_eq_true rfl⟩, ⟨Nat.le_of_ble_eq_true rfl, Nat.le_of_ble_eq_true rfl⟩⟩ (Nat.le_of_ble_eq_true rfl) (by decide) [] ⟨0, 9, 12, 28⟩ [⟨0, 9, 15, 15⟩] rfl (fun z hz => nomatch hz) (by decide) (by decide) cl_IndexOutOfBoundsException ca_IndexOutOfBoundsException (Or.inr ⟨3, by decide +kernel, rfl, rfl⟩) rfl ?_
      refine Go.run (pc' := 14) [.iconst 1] (ls' := [some (.ref a0), some (.int x1), some (.ref a2), none]) (st' := [.int 1]) (by decide +kernel) rfl rfl ?_
      exact Go.iret rfl (by decide) (by decide) (by decide +kernel)
    replace e := ite_f z0 e
    rcases Decidable.em ((["java/lang/IndexOutOfBoundsException", "java/lang/IllegalStateException"] : List String)[1]? = some E) with z1 | z1
    · replace e := ite_t z1 e
      obtain rfl : "java/lang/IllegalStateException" = E := Option.some.inj z1
      obtain rfl := Option.some.inj e
      refine Go.caught (M2 := m_F_restore) (a := a0) (as := [.int x1]) (rest := [.int 0, .ref a2]) (h1 := h1) (j := 3) (len := 1) hct wv_Q_restore k0 kc_7 (by decide +kernel) rfl rfl ⟨⟨Nat.le_of_ble_eq_true rfl, Nat.le_of_ble_eq_true rfl⟩, ⟨Nat.le_of_ble_eq_true rfl, Nat.le_of_ble_eq_true rfl⟩⟩ (Nat.le_of_ble_eq_true rfl) (by decide) [⟨0, 9, 12, 28⟩] ⟨0, 9, 15, 15⟩ [] rfl (fun z hz => by have e0 := List.mem_singleton.mp hz; subst e0; exact Or.inr ⟨by decide, "java/lang/IndexOutOfBoundsException", cl_IndexOutOfBoundsException, by decide⟩) (by decide) (by decide) cl_IllegalStateException ca_IllegalStateException (Or.inr ⟨3, by decide +kernel, rfl, rfl⟩) rfl ?_
      refine Go.run (pc' := 17) [.iconst 2] (ls' := [some (.ref a0), some (.int x1), some (.ref a2), none]) (st' := [.int 2]) (by decide +kernel) rfl rfl ?_
      exact Go.iret rfl (by decide) (by decide) (by decide +kernel)
    replace e := ite_f z1 e
    exact no_none e
