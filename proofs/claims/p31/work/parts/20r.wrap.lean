/-! the law's wrappers: an answer, or a number for an exception -/
theorem ca_IllegalStateException : Cond.castable "java/lang/IllegalStateException" "java/lang/IllegalStateException" ∈ NWs := nwt 364 (by decide +kernel) (by decide +kernel)
theorem ca_IndexOutOfBoundsException : Cond.castable "java/lang/IndexOutOfBoundsException" "java/lang/IndexOutOfBoundsException" ∈ NWs := nwt 606 (by decide +kernel) (by decide +kernel)
theorem ca_IllegalArgumentException : Cond.castable "java/lang/IllegalArgumentException" "java/lang/IllegalArgumentException" ∈ NWs := nwt 671 (by decide +kernel) (by decide +kernel)
theorem cl_IndexOutOfBoundsException : Cond.classLink "FairWallsLaw" 34 "java/lang/IndexOutOfBoundsException" ∈ GT := gtb 595 (by decide +kernel) (by decide +kernel)
theorem cl_IllegalArgumentException : Cond.classLink "FairWallsLaw" 15 "java/lang/IllegalArgumentException" ∈ GT := gtb 661 (by decide +kernel) (by decide +kernel)
theorem cl_IllegalStateException : Cond.classLink "FairWallsLaw" 19 "java/lang/IllegalStateException" ∈ GT := gtb 245 (by decide +kernel) (by decide +kernel)
theorem lx_Q_17 : Cond.constantLong "FairWallsLaw" 17 (-9000000000000000002) ∈ GT := gtb 738 (by decide +kernel) (by decide +kernel)
theorem lx_Q_21 : Cond.constantLong "FairWallsLaw" 21 (-9000000000000000003) ∈ GT := gtb 591 (by decide +kernel) (by decide +kernel)
theorem lx_Q_36 : Cond.constantLong "FairWallsLaw" 36 (-9000000000000000001) ∈ GT := gtb 629 (by decide +kernel) (by decide +kernel)
theorem iw_Q : Cond.initialized "FairWallsLaw" ∈ GT := gtb 0 (by decide +kernel) (by decide +kernel)
def m_Q_append : MI := (⟨"FairWallsLaw", "append", "(LFairWalls;I)J"⟩, method_4_code, 3, (some .long), 9, 1, [(0, 6, 7, 15), (0, 6, 12, 19)])
theorem cw_Q_append : codeW m_Q_append ∈ GT := gtb 986 (by decide +kernel) (by decide +kernel)
theorem sw_Q_append : Cond.static m_Q_append.y ∈ GT := gtb 985 (by decide +kernel) (by decide +kernel)
theorem wv_Q_append : WV "FairWallsLaw" 9 m_F_append 1 := ⟨⟨gtb 987 (by decide +kernel) (by decide +kernel), iw_F_append, cw_F_append, rfl, by decide +kernel, by decide +kernel⟩, nw_F_append, vw_F_append⟩
def f_Q_append (h : HP) (a0 : Nat) (x1 : Int32) : Option (Int64 × HP) := (f_F_append h a0 x1).bind (wrapL [("java/lang/IllegalArgumentException", xAR), ("java/lang/IllegalStateException", xST)])
def g_Q_append (h : HP) (a0 : Nat) (x1 : Int32) : Option (Int64 × HP) := (f_F_append h a0 x1).bind wrapN
set_option maxHeartbeats 1000000 in
theorem x_Q_append {l : Launch} {D : va_G} {ad : Nat → Nat} {aC : Nat → ClassId} (hf : l.flags = flags0) (hI : Inj ad) {h : HP} {a0 : Nat} {x1 : Int32} {r : Int64 × HP} (k0 : knd a0 = 7) (e : f_Q_append h a0 x1 = some r) : CT l D ad aC m_Q_append [.ref a0, .int x1] h (.inl (some (.long r.1))) r.2 := by
  refine CT.ofGoH (by decide +kernel) rfl (Nat.le_of_ble_eq_true rfl) ?_
  unfold f_Q_append at e
  show Go l D ad aC (rmk m_Q_append) _ m_Q_append 0 [some (.ref a0), some (.int x1), none] [] h 0 0
  obtain ⟨⟨res, h1⟩, hr, e⟩ := bd_inv e
  have hct := x_F_append (l := l) (D := D) (ad := ad) (aC := aC) hf hI k0 hr
  refine Go.run (pc' := 2) [.aload_n 0, .iload_n 1] (ls' := [some (.ref a0), some (.int x1), none]) (st' := [.int x1, .ref a0]) (by decide +kernel) rfl rfl ?_
  cases res with
  | inl v =>
    cases v with
    | none => exact no_none e
    | some w =>
      cases w with
      | int w =>
        obtain rfl := Option.some.inj e
        refine Go.callV (M2 := mr m_F_append (.inl (some (.int w)))) (a := a0) (as := [.int x1]) (rest := []) (h1 := h1) (v := some (.int w)) hct (WV.mr wv_Q_append) k0 kc_7 (by decide +kernel) rfl rfl ⟨⟨Nat.le_of_ble_eq_true rfl, Nat.le_of_ble_eq_true rfl⟩, ⟨Nat.zero_le _, Nat.zero_le _⟩⟩ (Nat.le_of_ble_eq_true rfl) ?_
        show Go l D ad aC _ _ m_Q_append 5 [some (.ref a0), some (.int x1), none] [.int w] h1 0 0
        refine Go.run (pc' := 6) [.i2l] (ls' := [some (.ref a0), some (.int x1), none]) (st' := [.long w.toInt64]) (by decide +kernel) rfl rfl ?_
        exact Go.lret rfl (by decide) (by decide) (by decide +kernel)
      | long w => exact no_none e
      | float w => exact no_none e
      | double w => exact no_none e
      | null => exact no_none e
      | ref w => exact no_none e
      | retAddr w => exact no_none e
  | inr E =>
    unfold wrapL at e
    dsimp only at e
    rcases Decidable.em ((([("java/lang/IllegalArgumentException", xAR), ("java/lang/IllegalStateException", xST)] : List (String × Int64))[0]?).map (fun q => q.1) = some E) with z0 | z0
    · replace e := ite_t z0 e
      obtain rfl : "java/lang/IllegalArgumentException" = E := Option.some.inj z0
      obtain rfl := Option.some.inj e
      refine Go.caught (M2 := mr m_F_append (.inr "java/lang/IllegalArgumentException")) (a := a0) (as := [.int x1]) (rest := []) (h1 := h1) (j := 2) (len := 1) hct (WV.mr wv_Q_append) k0 kc_7 (by decide +kernel) rfl rfl ⟨⟨Nat.le_of_ble_eq_true rfl, Nat.le_of_ble_eq_true rfl⟩, ⟨Nat.le_of_ble_eq_true rfl, Nat.le_of_ble_eq_true rfl⟩⟩ (Nat.le_of_ble_eq_true rfl) (by decide) [] ⟨0, 6, 7, 15⟩ [⟨0, 6, 12, 19⟩] rfl (fun z hz => nomatch hz) (by decide) (by decide) cl_IllegalArgumentException ca_IllegalArgumentException (Or.inr ⟨2, by decide +kernel, rfl, rfl⟩) rfl ?_
      show Go l D ad aC _ _ m_Q_append 8 [some (.ref a0), some (.int x1), none] [] h1 1 6
      refine Go.ldc2 lx_Q_17 (by decide +kernel) ?_
      exact Go.lret rfl (by decide) (by decide) (by decide +kernel)
    replace e := ite_f z0 e
    rcases Decidable.em ((([("java/lang/IllegalArgumentException", xAR), ("java/lang/IllegalStateException", xST)] : List (String × Int64))[1]?).map (fun q => q.1) = some E) with z1 | z1
    · replace e := ite_t z1 e
      obtain rfl : "java/lang/IllegalStateException" = E := Option.some.inj z1
      obtain rfl := Option.some.inj e
      refine Go.caught (M2 := mr m_F_append (.inr "java/lang/IllegalStateException")) (a := a0) (as := [.int x1]) (rest := []) (h1 := h1) (j := 2) (len := 1) hct (WV.mr wv_Q_append) k0 kc_7 (by decide +kernel) rfl rfl ⟨⟨Nat.le_of_ble_eq_true rfl, Nat.le_of_ble_eq_true rfl⟩, ⟨Nat.le_of_ble_eq_true rfl, Nat.le_of_ble_eq_true rfl⟩⟩ (Nat.le_of_ble_eq_true rfl) (by decide) [⟨0, 6, 7, 15⟩] ⟨0, 6, 12, 19⟩ [] rfl (fun z hz => by have e0 := List.mem_singleton.mp hz; subst e0; exact Or.inr ⟨by decide, "java/lang/IllegalArgumentException", cl_IllegalArgumentException, by decide⟩) (by decide) (by decide) cl_IllegalStateException ca_IllegalStateException (Or.inr ⟨2, by decide +kernel, rfl, rfl⟩) rfl ?_
      show Go l D ad aC _ _ m_Q_append 13 [some (.ref a0), some (.int x1), none] [] h1 1 6
      refine Go.ldc2 lx_Q_21 (by decide +kernel) ?_
      exact Go.lret rfl (by decide) (by decide) (by decide +kernel)
    replace e := ite_f z1 e
    exact no_none e
set_option maxHeartbeats 1000000 in
theorem xn_Q_append {l : Launch} {D : va_G} {ad : Nat → Nat} {aC : Nat → ClassId} (hf : l.flags = flags0) (hI : Inj ad) {h : HP} {a0 : Nat} {x1 : Int32} {r : Int64 × HP} (k0 : knd a0 = 7) (e : g_Q_append h a0 x1 = some r) : CT l D ad aC (mr m_Q_append (.inl none)) [.ref a0, .int x1] h (.inl (some (.long r.1))) r.2 := by
  refine CT.ofGoH (by decide +kernel) rfl (Nat.le_of_ble_eq_true rfl) ?_
  unfold g_Q_append at e
  show Go l D ad aC (rmk (mr m_Q_append (.inl none))) _ (mr m_Q_append (.inl none)) 0 [some (.ref a0), some (.int x1), none] [] h 0 0
  obtain ⟨⟨res, h1⟩, hr, e⟩ := bd_inv e
  have hct := x_F_append (l := l) (D := D) (ad := ad) (aC := aC) hf hI k0 hr
  refine Go.run (pc' := 2) [.aload_n 0, .iload_n 1] (ls' := [some (.ref a0), some (.int x1), none]) (st' := [.int x1, .ref a0]) (by decide +kernel) rfl rfl ?_
  cases res with
  | inl v =>
    cases v with
    | none => exact no_none e
    | some w =>
      cases w with
      | int w =>
        obtain rfl := Option.some.inj e
        refine Go.callV (M2 := mr m_F_append (.inl (some (.int w)))) (a := a0) (as := [.int x1]) (rest := []) (h1 := h1) (v := some (.int w)) hct (WV.mr wv_Q_append) k0 kc_7 (by decide +kernel) rfl rfl ⟨⟨Nat.le_of_ble_eq_true rfl, Nat.le_of_ble_eq_true rfl⟩, ⟨Nat.zero_le _, Nat.zero_le _⟩⟩ (Nat.le_of_ble_eq_true rfl) ?_
        show Go l D ad aC _ _ (mr m_Q_append (.inl none)) 5 [some (.ref a0), some (.int x1), none] [.int w] h1 0 0
        refine Go.run (pc' := 6) [.i2l] (ls' := [some (.ref a0), some (.int x1), none]) (st' := [.long w.toInt64]) (by decide +kernel) rfl rfl ?_
        exact Go.lret rfl (by decide) (by decide) (by decide +kernel)
      | long w => exact no_none e
      | float w => exact no_none e
      | double w => exact no_none e
      | null => exact no_none e
      | ref w => exact no_none e
      | retAddr w => exact no_none e
  | inr E =>
    exact no_none e
def m_Q_load : MI := (⟨"FairWallsLaw", "load", "(LFairWalls;)J"⟩, method_5_code, 2, (some .long), 9, 1, [(0, 5, 6, 19)])
theorem cw_Q_load : codeW m_Q_load ∈ GT := gtb 244 (by decide +kernel) (by decide +kernel)
theorem sw_Q_load : Cond.static m_Q_load.y ∈ GT := gtb 243 (by decide +kernel) (by decide +kernel)
theorem wv_Q_load : WV "FairWallsLaw" 23 m_F_load 0 := ⟨⟨gtb 246 (by decide +kernel) (by decide +kernel), iw_F_load, cw_F_load, rfl, by decide +kernel, by decide +kernel⟩, nw_F_load, vw_F_load⟩
def f_Q_load (h : HP) (a0 : Nat) : Option (Int64 × HP) := (f_F_load h a0).bind (wrapL [("java/lang/IllegalStateException", xST)])
set_option maxHeartbeats 1000000 in
theorem x_Q_load {l : Launch} {D : va_G} {ad : Nat → Nat} {aC : Nat → ClassId} (hf : l.flags = flags0) (hI : Inj ad) {h : HP} {a0 : Nat} {r : Int64 × HP} (k0 : knd a0 = 7) (e : f_Q_load h a0 = some r) : CT l D ad aC m_Q_load [.ref a0] h (.inl (some (.long r.1))) r.2 := by
  refine CT.ofGoH (by decide +kernel) rfl (Nat.le_of_ble_eq_true rfl) ?_
  unfold f_Q_load at e
  show Go l D ad aC (rmk m_Q_load) _ m_Q_load 0 [some (.ref a0), none] [] h 0 0
  obtain ⟨⟨res, h1⟩, hr, e⟩ := bd_inv e
  have hct := x_F_load (l := l) (D := D) (ad := ad) (aC := aC) hf hI k0 hr
  refine Go.run (pc' := 1) [.aload_n 0] (ls' := [some (.ref a0), none]) (st' := [.ref a0]) (by decide +kernel) rfl rfl ?_
  cases res with
  | inl v =>
    cases v with
    | none => exact no_none e
    | some w =>
      cases w with
      | int w =>
        obtain rfl := Option.some.inj e
        refine Go.callV (M2 := mr m_F_load (.inl (some (.int w)))) (a := a0) (as := []) (rest := []) (h1 := h1) (v := some (.int w)) hct (WV.mr wv_Q_load) k0 kc_7 (by decide +kernel) rfl rfl ⟨⟨Nat.le_of_ble_eq_true rfl, Nat.le_of_ble_eq_true rfl⟩, ⟨Nat.zero_le _, Nat.zero_le _⟩⟩ (Nat.le_of_ble_eq_true rfl) ?_
        show Go l D ad aC _ _ m_Q_load 4 [some (.ref a0), none] [.int w] h1 0 0
        refine Go.run (pc' := 5) [.i2l] (ls' := [some (.ref a0), none]) (st' := [.long w.toInt64]) (by decide +kernel) rfl rfl ?_
        exact Go.lret rfl (by decide) (by decide) (by decide +kernel)
      | long w => exact no_none e
      | float w => exact no_none e
      | double w => exact no_none e
      | null => exact no_none e
      | ref w => exact no_none e
      | retAddr w => exact no_none e
  | inr E =>
    unfold wrapL at e
    dsimp only at e
    rcases Decidable.em ((([("java/lang/IllegalStateException", xST)] : List (String × Int64))[0]?).map (fun q => q.1) = some E) with z0 | z0
    · replace e := ite_t z0 e
      obtain rfl : "java/lang/IllegalStateException" = E := Option.some.inj z0
      obtain rfl := Option.some.inj e
      refine Go.caught (M2 := mr m_F_load (.inr "java/lang/IllegalStateException")) (a := a0) (as := []) (rest := []) (h1 := h1) (j := 1) (len := 1) hct (WV.mr wv_Q_load) k0 kc_7 (by decide +kernel) rfl rfl ⟨⟨Nat.le_of_ble_eq_true rfl, Nat.le_of_ble_eq_true rfl⟩, ⟨Nat.le_of_ble_eq_true rfl, Nat.le_of_ble_eq_true rfl⟩⟩ (Nat.le_of_ble_eq_true rfl) (by decide) [] ⟨0, 5, 6, 19⟩ [] rfl (fun z hz => nomatch hz) (by decide) (by decide) cl_IllegalStateException ca_IllegalStateException (Or.inr ⟨1, by decide +kernel, rfl, rfl⟩) rfl ?_
      show Go l D ad aC _ _ m_Q_load 7 [some (.ref a0), none] [] h1 1 6
      refine Go.ldc2 lx_Q_21 (by decide +kernel) ?_
      exact Go.lret rfl (by decide) (by decide) (by decide +kernel)
    replace e := ite_f z0 e
    replace e := ite_f (show ¬ ((([("java/lang/IllegalStateException", xST)] : List (String × Int64))[1]?).map (fun q => q.1) = some E) by simp) e
    exact no_none e
def m_Q_about : MI := (⟨"FairWallsLaw", "about", "(LFairWalls;I)J"⟩, method_6_code, 3, (some .long), 9, 1, [(0, 6, 7, 15)])
theorem cw_Q_about : codeW m_Q_about ∈ GT := gtb 660 (by decide +kernel) (by decide +kernel)
theorem sw_Q_about : Cond.static m_Q_about.y ∈ GT := gtb 659 (by decide +kernel) (by decide +kernel)
theorem wv_Q_about : WV "FairWallsLaw" 27 m_F_about 1 := ⟨⟨gtb 662 (by decide +kernel) (by decide +kernel), iw_F_about, cw_F_about, rfl, by decide +kernel, by decide +kernel⟩, nw_F_about, vw_F_about⟩
def f_Q_about (h : HP) (a0 : Nat) (x1 : Int32) : Option (Int64 × HP) := (f_F_about h a0 x1).bind (wrapL [("java/lang/IllegalArgumentException", xAR)])
def g_Q_about (h : HP) (a0 : Nat) (x1 : Int32) : Option (Int64 × HP) := (f_F_about h a0 x1).bind wrapN
set_option maxHeartbeats 1000000 in
theorem x_Q_about {l : Launch} {D : va_G} {ad : Nat → Nat} {aC : Nat → ClassId} (hf : l.flags = flags0) (hI : Inj ad) {h : HP} {a0 : Nat} {x1 : Int32} {r : Int64 × HP} (k0 : knd a0 = 7) (e : f_Q_about h a0 x1 = some r) : CT l D ad aC m_Q_about [.ref a0, .int x1] h (.inl (some (.long r.1))) r.2 := by
  refine CT.ofGoH (by decide +kernel) rfl (Nat.le_of_ble_eq_true rfl) ?_
  unfold f_Q_about at e
  show Go l D ad aC (rmk m_Q_about) _ m_Q_about 0 [some (.ref a0), some (.int x1), none] [] h 0 0
  obtain ⟨⟨res, h1⟩, hr, e⟩ := bd_inv e
  have hct := x_F_about (l := l) (D := D) (ad := ad) (aC := aC) hf hI k0 hr
  refine Go.run (pc' := 2) [.aload_n 0, .iload_n 1] (ls' := [some (.ref a0), some (.int x1), none]) (st' := [.int x1, .ref a0]) (by decide +kernel) rfl rfl ?_
  cases res with
  | inl v =>
    cases v with
    | none => exact no_none e
    | some w =>
      cases w with
      | int w =>
        obtain rfl := Option.some.inj e
        refine Go.callV (M2 := mr m_F_about (.inl (some (.int w)))) (a := a0) (as := [.int x1]) (rest := []) (h1 := h1) (v := some (.int w)) hct (WV.mr wv_Q_about) k0 kc_7 (by decide +kernel) rfl rfl ⟨⟨Nat.le_of_ble_eq_true rfl, Nat.le_of_ble_eq_true rfl⟩, ⟨Nat.zero_le _, Nat.zero_le _⟩⟩ (Nat.le_of_ble_eq_true rfl) ?_
        show Go l D ad aC _ _ m_Q_about 5 [some (.ref a0), some (.int x1), none] [.int w] h1 0 0
        refine Go.run (pc' := 6) [.i2l] (ls' := [some (.ref a0), some (.int x1), none]) (st' := [.long w.toInt64]) (by decide +kernel) rfl rfl ?_
        exact Go.lret rfl (by decide) (by decide) (by decide +kernel)
      | long w => exact no_none e
      | float w => exact no_none e
      | double w => exact no_none e
      | null => exact no_none e
      | ref w => exact no_none e
      | retAddr w => exact no_none e
  | inr E =>
    unfold wrapL at e
    dsimp only at e
    rcases Decidable.em ((([("java/lang/IllegalArgumentException", xAR)] : List (String × Int64))[0]?).map (fun q => q.1) = some E) with z0 | z0
    · replace e := ite_t z0 e
      obtain rfl : "java/lang/IllegalArgumentException" = E := Option.some.inj z0
      obtain rfl := Option.some.inj e
      refine Go.caught (M2 := mr m_F_about (.inr "java/lang/IllegalArgumentException")) (a := a0) (as := [.int x1]) (rest := []) (h1 := h1) (j := 2) (len := 1) hct (WV.mr wv_Q_about) k0 kc_7 (by decide +kernel) rfl rfl ⟨⟨Nat.le_of_ble_eq_true rfl, Nat.le_of_ble_eq_true rfl⟩, ⟨Nat.le_of_ble_eq_true rfl, Nat.le_of_ble_eq_true rfl⟩⟩ (Nat.le_of_ble_eq_true rfl) (by decide) [] ⟨0, 6, 7, 15⟩ [] rfl (fun z hz => nomatch hz) (by decide) (by decide) cl_IllegalArgumentException ca_IllegalArgumentException (Or.inr ⟨2, by decide +kernel, rfl, rfl⟩) rfl ?_
      show Go l D ad aC _ _ m_Q_about 8 [some (.ref a0), some (.int x1), none] [] h1 1 6
      refine Go.ldc2 lx_Q_17 (by decide +kernel) ?_
      exact Go.lret rfl (by decide) (by decide) (by decide +kernel)
    replace e := ite_f z0 e
    replace e := ite_f (show ¬ ((([("java/lang/IllegalArgumentException", xAR)] : List (String × Int64))[1]?).map (fun q => q.1) = some E) by simp) e
    exact no_none e
set_option maxHeartbeats 1000000 in
theorem xn_Q_about {l : Launch} {D : va_G} {ad : Nat → Nat} {aC : Nat → ClassId} (hf : l.flags = flags0) (hI : Inj ad) {h : HP} {a0 : Nat} {x1 : Int32} {r : Int64 × HP} (k0 : knd a0 = 7) (e : g_Q_about h a0 x1 = some r) : CT l D ad aC (mr m_Q_about (.inl none)) [.ref a0, .int x1] h (.inl (some (.long r.1))) r.2 := by
  refine CT.ofGoH (by decide +kernel) rfl (Nat.le_of_ble_eq_true rfl) ?_
  unfold g_Q_about at e
  show Go l D ad aC (rmk (mr m_Q_about (.inl none))) _ (mr m_Q_about (.inl none)) 0 [some (.ref a0), some (.int x1), none] [] h 0 0
  obtain ⟨⟨res, h1⟩, hr, e⟩ := bd_inv e
  have hct := x_F_about (l := l) (D := D) (ad := ad) (aC := aC) hf hI k0 hr
  refine Go.run (pc' := 2) [.aload_n 0, .iload_n 1] (ls' := [some (.ref a0), some (.int x1), none]) (st' := [.int x1, .ref a0]) (by decide +kernel) rfl rfl ?_
  cases res with
  | inl v =>
    cases v with
    | none => exact no_none e
    | some w =>
      cases w with
      | int w =>
        obtain rfl := Option.some.inj e
        refine Go.callV (M2 := mr m_F_about (.inl (some (.int w)))) (a := a0) (as := [.int x1]) (rest := []) (h1 := h1) (v := some (.int w)) hct (WV.mr wv_Q_about) k0 kc_7 (by decide +kernel) rfl rfl ⟨⟨Nat.le_of_ble_eq_true rfl, Nat.le_of_ble_eq_true rfl⟩, ⟨Nat.zero_le _, Nat.zero_le _⟩⟩ (Nat.le_of_ble_eq_true rfl) ?_
        show Go l D ad aC _ _ (mr m_Q_about (.inl none)) 5 [some (.ref a0), some (.int x1), none] [.int w] h1 0 0
        refine Go.run (pc' := 6) [.i2l] (ls' := [some (.ref a0), some (.int x1), none]) (st' := [.long w.toInt64]) (by decide +kernel) rfl rfl ?_
        exact Go.lret rfl (by decide) (by decide) (by decide +kernel)
      | long w => exact no_none e
      | float w => exact no_none e
      | double w => exact no_none e
      | null => exact no_none e
      | ref w => exact no_none e
      | retAddr w => exact no_none e
  | inr E =>
    exact no_none e
def m_Q_wallOf : MI := (⟨"FairWallsLaw", "wallOf", "(LFairWalls;II)J"⟩, method_7_code, 4, (some .long), 9, 1, [(0, 7, 8, 34), (0, 7, 13, 15)])
theorem cw_Q_wallOf : codeW m_Q_wallOf ∈ GT := gtb 749 (by decide +kernel) (by decide +kernel)
theorem sw_Q_wallOf : Cond.static m_Q_wallOf.y ∈ GT := gtb 748 (by decide +kernel) (by decide +kernel)
theorem wv_Q_wallOf : WV "FairWallsLaw" 30 m_F_wallOf 2 := ⟨⟨gtb 750 (by decide +kernel) (by decide +kernel), iw_F_wallOf, cw_F_wallOf, rfl, by decide +kernel, by decide +kernel⟩, nw_F_wallOf, vw_F_wallOf⟩
def f_Q_wallOf (h : HP) (a0 : Nat) (x1 : Int32) (x2 : Int32) : Option (Int64 × HP) := (f_F_wallOf h a0 x1 x2).bind (wrapL [("java/lang/IndexOutOfBoundsException", xIX), ("java/lang/IllegalArgumentException", xAR)])
def g_Q_wallOf (h : HP) (a0 : Nat) (x1 : Int32) (x2 : Int32) : Option (Int64 × HP) := (f_F_wallOf h a0 x1 x2).bind wrapN
set_option maxHeartbeats 1000000 in
theorem x_Q_wallOf {l : Launch} {D : va_G} {ad : Nat → Nat} {aC : Nat → ClassId} (hf : l.flags = flags0) (hI : Inj ad) {h : HP} {a0 : Nat} {x1 : Int32} {x2 : Int32} {r : Int64 × HP} (k0 : knd a0 = 7) (e : f_Q_wallOf h a0 x1 x2 = some r) : CT l D ad aC m_Q_wallOf [.ref a0, .int x1, .int x2] h (.inl (some (.long r.1))) r.2 := by
  refine CT.ofGoH (by decide +kernel) rfl (Nat.le_of_ble_eq_true rfl) ?_
  unfold f_Q_wallOf at e
  show Go l D ad aC (rmk m_Q_wallOf) _ m_Q_wallOf 0 [some (.ref a0), some (.int x1), some (.int x2), none] [] h 0 0
  obtain ⟨⟨res, h1⟩, hr, e⟩ := bd_inv e
  have hct := x_F_wallOf (l := l) (D := D) (ad := ad) (aC := aC) hf hI k0 hr
  refine Go.run (pc' := 3) [.aload_n 0, .iload_n 1, .iload_n 2] (ls' := [some (.ref a0), some (.int x1), some (.int x2), none]) (st' := [.int x2, .int x1, .ref a0]) (by decide +kernel) rfl rfl ?_
  cases res with
  | inl v =>
    cases v with
    | none => exact no_none e
    | some w =>
      cases w with
      | int w =>
        obtain rfl := Option.some.inj e
        refine Go.callV (M2 := mr m_F_wallOf (.inl (some (.int w)))) (a := a0) (as := [.int x1, .int x2]) (rest := []) (h1 := h1) (v := some (.int w)) hct (WV.mr wv_Q_wallOf) k0 kc_7 (by decide +kernel) rfl rfl ⟨⟨Nat.le_of_ble_eq_true rfl, Nat.le_of_ble_eq_true rfl⟩, ⟨Nat.zero_le _, Nat.zero_le _⟩⟩ (Nat.le_of_ble_eq_true rfl) ?_
        show Go l D ad aC _ _ m_Q_wallOf 6 [some (.ref a0), some (.int x1), some (.int x2), none] [.int w] h1 0 0
        refine Go.run (pc' := 7) [.i2l] (ls' := [some (.ref a0), some (.int x1), some (.int x2), none]) (st' := [.long w.toInt64]) (by decide +kernel) rfl rfl ?_
        exact Go.lret rfl (by decide) (by decide) (by decide +kernel)
      | long w => exact no_none e
      | float w => exact no_none e
      | double w => exact no_none e
      | null => exact no_none e
      | ref w => exact no_none e
      | retAddr w => exact no_none e
  | inr E =>
    unfold wrapL at e
    dsimp only at e
    rcases Decidable.em ((([("java/lang/IndexOutOfBoundsException", xIX), ("java/lang/IllegalArgumentException", xAR)] : List (String × Int64))[0]?).map (fun q => q.1) = some E) with z0 | z0
    · replace e := ite_t z0 e
      obtain rfl : "java/lang/IndexOutOfBoundsException" = E := Option.some.inj z0
      obtain rfl := Option.some.inj e
      refine Go.caught (M2 := mr m_F_wallOf (.inr "java/lang/IndexOutOfBoundsException")) (a := a0) (as := [.int x1, .int x2]) (rest := []) (h1 := h1) (j := 3) (len := 1) hct (WV.mr wv_Q_wallOf) k0 kc_7 (by decide +kernel) rfl rfl ⟨⟨Nat.le_of_ble_eq_true rfl, Nat.le_of_ble_eq_true rfl⟩, ⟨Nat.le_of_ble_eq_true rfl, Nat.le_of_ble_eq_true rfl⟩⟩ (Nat.le_of_ble_eq_true rfl) (by decide) [] ⟨0, 7, 8, 34⟩ [⟨0, 7, 13, 15⟩] rfl (fun z hz => nomatch hz) (by decide) (by decide) cl_IndexOutOfBoundsException ca_IndexOutOfBoundsException (Or.inr ⟨3, by decide +kernel, rfl, rfl⟩) rfl ?_
      show Go l D ad aC _ _ m_Q_wallOf 9 [some (.ref a0), some (.int x1), some (.int x2), none] [] h1 1 6
      refine Go.ldc2 lx_Q_36 (by decide +kernel) ?_
      exact Go.lret rfl (by decide) (by decide) (by decide +kernel)
    replace e := ite_f z0 e
    rcases Decidable.em ((([("java/lang/IndexOutOfBoundsException", xIX), ("java/lang/IllegalArgumentException", xAR)] : List (String × Int64))[1]?).map (fun q => q.1) = some E) with z1 | z1
    · replace e := ite_t z1 e
      obtain rfl : "java/lang/IllegalArgumentException" = E := Option.some.inj z1
      obtain rfl := Option.some.inj e
      refine Go.caught (M2 := mr m_F_wallOf (.inr "java/lang/IllegalArgumentException")) (a := a0) (as := [.int x1, .int x2]) (rest := []) (h1 := h1) (j := 3) (len := 1) hct (WV.mr wv_Q_wallOf) k0 kc_7 (by decide +kernel) rfl rfl ⟨⟨Nat.le_of_ble_eq_true rfl, Nat.le_of_ble_eq_true rfl⟩, ⟨Nat.le_of_ble_eq_true rfl, Nat.le_of_ble_eq_true rfl⟩⟩ (Nat.le_of_ble_eq_true rfl) (by decide) [⟨0, 7, 8, 34⟩] ⟨0, 7, 13, 15⟩ [] rfl (fun z hz => by have e0 := List.mem_singleton.mp hz; subst e0; exact Or.inr ⟨by decide, "java/lang/IndexOutOfBoundsException", cl_IndexOutOfBoundsException, by decide⟩) (by decide) (by decide) cl_IllegalArgumentException ca_IllegalArgumentException (Or.inr ⟨3, by decide +kernel, rfl, rfl⟩) rfl ?_
      show Go l D ad aC _ _ m_Q_wallOf 14 [some (.ref a0), some (.int x1), some (.int x2), none] [] h1 1 6
      refine Go.ldc2 lx_Q_17 (by decide +kernel) ?_
      exact Go.lret rfl (by decide) (by decide) (by decide +kernel)
    replace e := ite_f z1 e
    exact no_none e
set_option maxHeartbeats 1000000 in
theorem xn_Q_wallOf {l : Launch} {D : va_G} {ad : Nat → Nat} {aC : Nat → ClassId} (hf : l.flags = flags0) (hI : Inj ad) {h : HP} {a0 : Nat} {x1 : Int32} {x2 : Int32} {r : Int64 × HP} (k0 : knd a0 = 7) (e : g_Q_wallOf h a0 x1 x2 = some r) : CT l D ad aC (mr m_Q_wallOf (.inl none)) [.ref a0, .int x1, .int x2] h (.inl (some (.long r.1))) r.2 := by
  refine CT.ofGoH (by decide +kernel) rfl (Nat.le_of_ble_eq_true rfl) ?_
  unfold g_Q_wallOf at e
  show Go l D ad aC (rmk (mr m_Q_wallOf (.inl none))) _ (mr m_Q_wallOf (.inl none)) 0 [some (.ref a0), some (.int x1), some (.int x2), none] [] h 0 0
  obtain ⟨⟨res, h1⟩, hr, e⟩ := bd_inv e
  have hct := x_F_wallOf (l := l) (D := D) (ad := ad) (aC := aC) hf hI k0 hr
  refine Go.run (pc' := 3) [.aload_n 0, .iload_n 1, .iload_n 2] (ls' := [some (.ref a0), some (.int x1), some (.int x2), none]) (st' := [.int x2, .int x1, .ref a0]) (by decide +kernel) rfl rfl ?_
  cases res with
  | inl v =>
    cases v with
    | none => exact no_none e
    | some w =>
      cases w with
      | int w =>
        obtain rfl := Option.some.inj e
        refine Go.callV (M2 := mr m_F_wallOf (.inl (some (.int w)))) (a := a0) (as := [.int x1, .int x2]) (rest := []) (h1 := h1) (v := some (.int w)) hct (WV.mr wv_Q_wallOf) k0 kc_7 (by decide +kernel) rfl rfl ⟨⟨Nat.le_of_ble_eq_true rfl, Nat.le_of_ble_eq_true rfl⟩, ⟨Nat.zero_le _, Nat.zero_le _⟩⟩ (Nat.le_of_ble_eq_true rfl) ?_
        show Go l D ad aC _ _ (mr m_Q_wallOf (.inl none)) 6 [some (.ref a0), some (.int x1), some (.int x2), none] [.int w] h1 0 0
        refine Go.run (pc' := 7) [.i2l] (ls' := [some (.ref a0), some (.int x1), some (.int x2), none]) (st' := [.long w.toInt64]) (by decide +kernel) rfl rfl ?_
        exact Go.lret rfl (by decide) (by decide) (by decide +kernel)
      | long w => exact no_none e
      | float w => exact no_none e
      | double w => exact no_none e
      | null => exact no_none e
      | ref w => exact no_none e
      | retAddr w => exact no_none e
  | inr E =>
    exact no_none e
def m_Q_metreOf : MI := (⟨"FairWallsLaw", "metreOf", "(LFairWalls;III)J"⟩, method_8_code, 5, (some .long), 9, 1, [(0, 8, 9, 34), (0, 8, 15, 15)])
theorem cw_Q_metreOf : codeW m_Q_metreOf ∈ GT := gtb 780 (by decide +kernel) (by decide +kernel)
theorem sw_Q_metreOf : Cond.static m_Q_metreOf.y ∈ GT := gtb 779 (by decide +kernel) (by decide +kernel)
theorem wv_Q_metreOf : WV "FairWallsLaw" 38 m_F_metreOf 3 := ⟨⟨gtb 781 (by decide +kernel) (by decide +kernel), iw_F_metreOf, cw_F_metreOf, rfl, by decide +kernel, by decide +kernel⟩, nw_F_metreOf, vw_F_metreOf⟩
def f_Q_metreOf (h : HP) (a0 : Nat) (x1 : Int32) (x2 : Int32) (x3 : Int32) : Option (Int64 × HP) := (f_F_metreOf h a0 x1 x2 x3).bind (wrapL [("java/lang/IndexOutOfBoundsException", xIX), ("java/lang/IllegalArgumentException", xAR)])
def g_Q_metreOf (h : HP) (a0 : Nat) (x1 : Int32) (x2 : Int32) (x3 : Int32) : Option (Int64 × HP) := (f_F_metreOf h a0 x1 x2 x3).bind wrapN
set_option maxHeartbeats 1000000 in
theorem x_Q_metreOf {l : Launch} {D : va_G} {ad : Nat → Nat} {aC : Nat → ClassId} (hf : l.flags = flags0) (hI : Inj ad) {h : HP} {a0 : Nat} {x1 : Int32} {x2 : Int32} {x3 : Int32} {r : Int64 × HP} (k0 : knd a0 = 7) (e : f_Q_metreOf h a0 x1 x2 x3 = some r) : CT l D ad aC m_Q_metreOf [.ref a0, .int x1, .int x2, .int x3] h (.inl (some (.long r.1))) r.2 := by
  refine CT.ofGoH (by decide +kernel) rfl (Nat.le_of_ble_eq_true rfl) ?_
  unfold f_Q_metreOf at e
  show Go l D ad aC (rmk m_Q_metreOf) _ m_Q_metreOf 0 [some (.ref a0), some (.int x1), some (.int x2), some (.int x3), none] [] h 0 0
  obtain ⟨⟨res, h1⟩, hr, e⟩ := bd_inv e
  have hct := x_F_metreOf (l := l) (D := D) (ad := ad) (aC := aC) hf hI k0 hr
  refine Go.run (pc' := 4) [.aload_n 0, .iload_n 1, .iload_n 2, .iload_n 3] (ls' := [some (.ref a0), some (.int x1), some (.int x2), some (.int x3), none]) (st' := [.int x3, .int x2, .int x1, .ref a0]) (by decide +kernel) rfl rfl ?_
  cases res with
  | inl v =>
    cases v with
    | none => exact no_none e
    | some w =>
      cases w with
      | int w =>
        obtain rfl := Option.some.inj e
        refine Go.callV (M2 := mr m_F_metreOf (.inl (some (.int w)))) (a := a0) (as := [.int x1, .int x2, .int x3]) (rest := []) (h1 := h1) (v := some (.int w)) hct (WV.mr wv_Q_metreOf) k0 kc_7 (by decide +kernel) rfl rfl ⟨⟨Nat.le_of_ble_eq_true rfl, Nat.le_of_ble_eq_true rfl⟩, ⟨Nat.zero_le _, Nat.zero_le _⟩⟩ (Nat.le_of_ble_eq_true rfl) ?_
        show Go l D ad aC _ _ m_Q_metreOf 7 [some (.ref a0), some (.int x1), some (.int x2), some (.int x3), none] [.int w] h1 0 0
        refine Go.run (pc' := 8) [.i2l] (ls' := [some (.ref a0), some (.int x1), some (.int x2), some (.int x3), none]) (st' := [.long w.toInt64]) (by decide +kernel) rfl rfl ?_
        exact Go.lret rfl (by decide) (by decide) (by decide +kernel)
      | long w => exact no_none e
      | float w => exact no_none e
      | double w => exact no_none e
      | null => exact no_none e
      | ref w => exact no_none e
      | retAddr w => exact no_none e
  | inr E =>
    unfold wrapL at e
    dsimp only at e
    rcases Decidable.em ((([("java/lang/IndexOutOfBoundsException", xIX), ("java/lang/IllegalArgumentException", xAR)] : List (String × Int64))[0]?).map (fun q => q.1) = some E) with z0 | z0
    · replace e := ite_t z0 e
      obtain rfl : "java/lang/IndexOutOfBoundsException" = E := Option.some.inj z0
      obtain rfl := Option.some.inj e
      refine Go.caught (M2 := mr m_F_metreOf (.inr "java/lang/IndexOutOfBoundsException")) (a := a0) (as := [.int x1, .int x2, .int x3]) (rest := []) (h1 := h1) (j := 4) (len := 2) hct (WV.mr wv_Q_metreOf) k0 kc_7 (by decide +kernel) rfl rfl ⟨⟨Nat.le_of_ble_eq_true rfl, Nat.le_of_ble_eq_true rfl⟩, ⟨Nat.le_of_ble_eq_true rfl, Nat.le_of_ble_eq_true rfl⟩⟩ (Nat.le_of_ble_eq_true rfl) (by decide) [] ⟨0, 8, 9, 34⟩ [⟨0, 8, 15, 15⟩] rfl (fun z hz => nomatch hz) (by decide) (by decide) cl_IndexOutOfBoundsException ca_IndexOutOfBoundsException (Or.inl ⟨by decide +kernel, rfl⟩) rfl ?_
      show Go l D ad aC _ _ m_Q_metreOf 11 [some (.ref a0), some (.int x1), some (.int x2), some (.int x3), none] [] h1 1 6
      refine Go.ldc2 lx_Q_36 (by decide +kernel) ?_
      exact Go.lret rfl (by decide) (by decide) (by decide +kernel)
    replace e := ite_f z0 e
    rcases Decidable.em ((([("java/lang/IndexOutOfBoundsException", xIX), ("java/lang/IllegalArgumentException", xAR)] : List (String × Int64))[1]?).map (fun q => q.1) = some E) with z1 | z1
    · replace e := ite_t z1 e
      obtain rfl : "java/lang/IllegalArgumentException" = E := Option.some.inj z1
      obtain rfl := Option.some.inj e
      refine Go.caught (M2 := mr m_F_metreOf (.inr "java/lang/IllegalArgumentException")) (a := a0) (as := [.int x1, .int x2, .int x3]) (rest := []) (h1 := h1) (j := 4) (len := 2) hct (WV.mr wv_Q_metreOf) k0 kc_7 (by decide +kernel) rfl rfl ⟨⟨Nat.le_of_ble_eq_true rfl, Nat.le_of_ble_eq_true rfl⟩, ⟨Nat.le_of_ble_eq_true rfl, Nat.le_of_ble_eq_true rfl⟩⟩ (Nat.le_of_ble_eq_true rfl) (by decide) [⟨0, 8, 9, 34⟩] ⟨0, 8, 15, 15⟩ [] rfl (fun z hz => by have e0 := List.mem_singleton.mp hz; subst e0; exact Or.inr ⟨by decide, "java/lang/IndexOutOfBoundsException", cl_IndexOutOfBoundsException, by decide⟩) (by decide) (by decide) cl_IllegalArgumentException ca_IllegalArgumentException (Or.inl ⟨by decide +kernel, rfl⟩) rfl ?_
      show Go l D ad aC _ _ m_Q_metreOf 17 [some (.ref a0), some (.int x1), some (.int x2), some (.int x3), none] [] h1 1 6
      refine Go.ldc2 lx_Q_17 (by decide +kernel) ?_
      exact Go.lret rfl (by decide) (by decide) (by decide +kernel)
    replace e := ite_f z1 e
    exact no_none e
set_option maxHeartbeats 1000000 in
theorem xn_Q_metreOf {l : Launch} {D : va_G} {ad : Nat → Nat} {aC : Nat → ClassId} (hf : l.flags = flags0) (hI : Inj ad) {h : HP} {a0 : Nat} {x1 : Int32} {x2 : Int32} {x3 : Int32} {r : Int64 × HP} (k0 : knd a0 = 7) (e : g_Q_metreOf h a0 x1 x2 x3 = some r) : CT l D ad aC (mr m_Q_metreOf (.inl none)) [.ref a0, .int x1, .int x2, .int x3] h (.inl (some (.long r.1))) r.2 := by
  refine CT.ofGoH (by decide +kernel) rfl (Nat.le_of_ble_eq_true rfl) ?_
  unfold g_Q_metreOf at e
  show Go l D ad aC (rmk (mr m_Q_metreOf (.inl none))) _ (mr m_Q_metreOf (.inl none)) 0 [some (.ref a0), some (.int x1), some (.int x2), some (.int x3), none] [] h 0 0
  obtain ⟨⟨res, h1⟩, hr, e⟩ := bd_inv e
  have hct := x_F_metreOf (l := l) (D := D) (ad := ad) (aC := aC) hf hI k0 hr
  refine Go.run (pc' := 4) [.aload_n 0, .iload_n 1, .iload_n 2, .iload_n 3] (ls' := [some (.ref a0), some (.int x1), some (.int x2), some (.int x3), none]) (st' := [.int x3, .int x2, .int x1, .ref a0]) (by decide +kernel) rfl rfl ?_
  cases res with
  | inl v =>
    cases v with
    | none => exact no_none e
    | some w =>
      cases w with
      | int w =>
        obtain rfl := Option.some.inj e
        refine Go.callV (M2 := mr m_F_metreOf (.inl (some (.int w)))) (a := a0) (as := [.int x1, .int x2, .int x3]) (rest := []) (h1 := h1) (v := some (.int w)) hct (WV.mr wv_Q_metreOf) k0 kc_7 (by decide +kernel) rfl rfl ⟨⟨Nat.le_of_ble_eq_true rfl, Nat.le_of_ble_eq_true rfl⟩, ⟨Nat.zero_le _, Nat.zero_le _⟩⟩ (Nat.le_of_ble_eq_true rfl) ?_
        show Go l D ad aC _ _ (mr m_Q_metreOf (.inl none)) 7 [some (.ref a0), some (.int x1), some (.int x2), some (.int x3), none] [.int w] h1 0 0
        refine Go.run (pc' := 8) [.i2l] (ls' := [some (.ref a0), some (.int x1), some (.int x2), some (.int x3), none]) (st' := [.long w.toInt64]) (by decide +kernel) rfl rfl ?_
        exact Go.lret rfl (by decide) (by decide) (by decide +kernel)
      | long w => exact no_none e
      | float w => exact no_none e
      | double w => exact no_none e
      | null => exact no_none e
      | ref w => exact no_none e
      | retAddr w => exact no_none e
  | inr E =>
    exact no_none e
def m_Q_dealerOf : MI := (⟨"FairWallsLaw", "dealerOf", "(LFairWalls;II)J"⟩, method_9_code, 4, (some .long), 9, 1, [(0, 7, 8, 34), (0, 7, 13, 15)])
theorem cw_Q_dealerOf : codeW m_Q_dealerOf ∈ GT := gtb 791 (by decide +kernel) (by decide +kernel)
theorem sw_Q_dealerOf : Cond.static m_Q_dealerOf.y ∈ GT := gtb 790 (by decide +kernel) (by decide +kernel)
theorem wv_Q_dealerOf : WV "FairWallsLaw" 42 m_F_dealerOf 2 := ⟨⟨gtb 792 (by decide +kernel) (by decide +kernel), iw_F_dealerOf, cw_F_dealerOf, rfl, by decide +kernel, by decide +kernel⟩, nw_F_dealerOf, vw_F_dealerOf⟩
def f_Q_dealerOf (h : HP) (a0 : Nat) (x1 : Int32) (x2 : Int32) : Option (Int64 × HP) := (f_F_dealerOf h a0 x1 x2).bind (wrapL [("java/lang/IndexOutOfBoundsException", xIX), ("java/lang/IllegalArgumentException", xAR)])
def g_Q_dealerOf (h : HP) (a0 : Nat) (x1 : Int32) (x2 : Int32) : Option (Int64 × HP) := (f_F_dealerOf h a0 x1 x2).bind wrapN
set_option maxHeartbeats 1000000 in
theorem x_Q_dealerOf {l : Launch} {D : va_G} {ad : Nat → Nat} {aC : Nat → ClassId} (hf : l.flags = flags0) (hI : Inj ad) {h : HP} {a0 : Nat} {x1 : Int32} {x2 : Int32} {r : Int64 × HP} (k0 : knd a0 = 7) (e : f_Q_dealerOf h a0 x1 x2 = some r) : CT l D ad aC m_Q_dealerOf [.ref a0, .int x1, .int x2] h (.inl (some (.long r.1))) r.2 := by
  refine CT.ofGoH (by decide +kernel) rfl (Nat.le_of_ble_eq_true rfl) ?_
  unfold f_Q_dealerOf at e
  show Go l D ad aC (rmk m_Q_dealerOf) _ m_Q_dealerOf 0 [some (.ref a0), some (.int x1), some (.int x2), none] [] h 0 0
  obtain ⟨⟨res, h1⟩, hr, e⟩ := bd_inv e
  have hct := x_F_dealerOf (l := l) (D := D) (ad := ad) (aC := aC) hf hI k0 hr
  refine Go.run (pc' := 3) [.aload_n 0, .iload_n 1, .iload_n 2] (ls' := [some (.ref a0), some (.int x1), some (.int x2), none]) (st' := [.int x2, .int x1, .ref a0]) (by decide +kernel) rfl rfl ?_
  cases res with
  | inl v =>
    cases v with
    | none => exact no_none e
    | some w =>
      cases w with
      | int w =>
        obtain rfl := Option.some.inj e
        refine Go.callV (M2 := mr m_F_dealerOf (.inl (some (.int w)))) (a := a0) (as := [.int x1, .int x2]) (rest := []) (h1 := h1) (v := some (.int w)) hct (WV.mr wv_Q_dealerOf) k0 kc_7 (by decide +kernel) rfl rfl ⟨⟨Nat.le_of_ble_eq_true rfl, Nat.le_of_ble_eq_true rfl⟩, ⟨Nat.zero_le _, Nat.zero_le _⟩⟩ (Nat.le_of_ble_eq_true rfl) ?_
        show Go l D ad aC _ _ m_Q_dealerOf 6 [some (.ref a0), some (.int x1), some (.int x2), none] [.int w] h1 0 0
        refine Go.run (pc' := 7) [.i2l] (ls' := [some (.ref a0), some (.int x1), some (.int x2), none]) (st' := [.long w.toInt64]) (by decide +kernel) rfl rfl ?_
        exact Go.lret rfl (by decide) (by decide) (by decide +kernel)
      | long w => exact no_none e
      | float w => exact no_none e
      | double w => exact no_none e
      | null => exact no_none e
      | ref w => exact no_none e
      | retAddr w => exact no_none e
  | inr E =>
    unfold wrapL at e
    dsimp only at e
    rcases Decidable.em ((([("java/lang/IndexOutOfBoundsException", xIX), ("java/lang/IllegalArgumentException", xAR)] : List (String × Int64))[0]?).map (fun q => q.1) = some E) with z0 | z0
    · replace e := ite_t z0 e
      obtain rfl : "java/lang/IndexOutOfBoundsException" = E := Option.some.inj z0
      obtain rfl := Option.some.inj e
      refine Go.caught (M2 := mr m_F_dealerOf (.inr "java/lang/IndexOutOfBoundsException")) (a := a0) (as := [.int x1, .int x2]) (rest := []) (h1 := h1) (j := 3) (len := 1) hct (WV.mr wv_Q_dealerOf) k0 kc_7 (by decide +kernel) rfl rfl ⟨⟨Nat.le_of_ble_eq_true rfl, Nat.le_of_ble_eq_true rfl⟩, ⟨Nat.le_of_ble_eq_true rfl, Nat.le_of_ble_eq_true rfl⟩⟩ (Nat.le_of_ble_eq_true rfl) (by decide) [] ⟨0, 7, 8, 34⟩ [⟨0, 7, 13, 15⟩] rfl (fun z hz => nomatch hz) (by decide) (by decide) cl_IndexOutOfBoundsException ca_IndexOutOfBoundsException (Or.inr ⟨3, by decide +kernel, rfl, rfl⟩) rfl ?_
      show Go l D ad aC _ _ m_Q_dealerOf 9 [some (.ref a0), some (.int x1), some (.int x2), none] [] h1 1 6
      refine Go.ldc2 lx_Q_36 (by decide +kernel) ?_
      exact Go.lret rfl (by decide) (by decide) (by decide +kernel)
    replace e := ite_f z0 e
    rcases Decidable.em ((([("java/lang/IndexOutOfBoundsException", xIX), ("java/lang/IllegalArgumentException", xAR)] : List (String × Int64))[1]?).map (fun q => q.1) = some E) with z1 | z1
    · replace e := ite_t z1 e
      obtain rfl : "java/lang/IllegalArgumentException" = E := Option.some.inj z1
      obtain rfl := Option.some.inj e
      refine Go.caught (M2 := mr m_F_dealerOf (.inr "java/lang/IllegalArgumentException")) (a := a0) (as := [.int x1, .int x2]) (rest := []) (h1 := h1) (j := 3) (len := 1) hct (WV.mr wv_Q_dealerOf) k0 kc_7 (by decide +kernel) rfl rfl ⟨⟨Nat.le_of_ble_eq_true rfl, Nat.le_of_ble_eq_true rfl⟩, ⟨Nat.le_of_ble_eq_true rfl, Nat.le_of_ble_eq_true rfl⟩⟩ (Nat.le_of_ble_eq_true rfl) (by decide) [⟨0, 7, 8, 34⟩] ⟨0, 7, 13, 15⟩ [] rfl (fun z hz => by have e0 := List.mem_singleton.mp hz; subst e0; exact Or.inr ⟨by decide, "java/lang/IndexOutOfBoundsException", cl_IndexOutOfBoundsException, by decide⟩) (by decide) (by decide) cl_IllegalArgumentException ca_IllegalArgumentException (Or.inr ⟨3, by decide +kernel, rfl, rfl⟩) rfl ?_
      show Go l D ad aC _ _ m_Q_dealerOf 14 [some (.ref a0), some (.int x1), some (.int x2), none] [] h1 1 6
      refine Go.ldc2 lx_Q_17 (by decide +kernel) ?_
      exact Go.lret rfl (by decide) (by decide) (by decide +kernel)
    replace e := ite_f z1 e
    exact no_none e
set_option maxHeartbeats 1000000 in
theorem xn_Q_dealerOf {l : Launch} {D : va_G} {ad : Nat → Nat} {aC : Nat → ClassId} (hf : l.flags = flags0) (hI : Inj ad) {h : HP} {a0 : Nat} {x1 : Int32} {x2 : Int32} {r : Int64 × HP} (k0 : knd a0 = 7) (e : g_Q_dealerOf h a0 x1 x2 = some r) : CT l D ad aC (mr m_Q_dealerOf (.inl none)) [.ref a0, .int x1, .int x2] h (.inl (some (.long r.1))) r.2 := by
  refine CT.ofGoH (by decide +kernel) rfl (Nat.le_of_ble_eq_true rfl) ?_
  unfold g_Q_dealerOf at e
  show Go l D ad aC (rmk (mr m_Q_dealerOf (.inl none))) _ (mr m_Q_dealerOf (.inl none)) 0 [some (.ref a0), some (.int x1), some (.int x2), none] [] h 0 0
  obtain ⟨⟨res, h1⟩, hr, e⟩ := bd_inv e
  have hct := x_F_dealerOf (l := l) (D := D) (ad := ad) (aC := aC) hf hI k0 hr
  refine Go.run (pc' := 3) [.aload_n 0, .iload_n 1, .iload_n 2] (ls' := [some (.ref a0), some (.int x1), some (.int x2), none]) (st' := [.int x2, .int x1, .ref a0]) (by decide +kernel) rfl rfl ?_
  cases res with
  | inl v =>
    cases v with
    | none => exact no_none e
    | some w =>
      cases w with
      | int w =>
        obtain rfl := Option.some.inj e
        refine Go.callV (M2 := mr m_F_dealerOf (.inl (some (.int w)))) (a := a0) (as := [.int x1, .int x2]) (rest := []) (h1 := h1) (v := some (.int w)) hct (WV.mr wv_Q_dealerOf) k0 kc_7 (by decide +kernel) rfl rfl ⟨⟨Nat.le_of_ble_eq_true rfl, Nat.le_of_ble_eq_true rfl⟩, ⟨Nat.zero_le _, Nat.zero_le _⟩⟩ (Nat.le_of_ble_eq_true rfl) ?_
        show Go l D ad aC _ _ (mr m_Q_dealerOf (.inl none)) 6 [some (.ref a0), some (.int x1), some (.int x2), none] [.int w] h1 0 0
        refine Go.run (pc' := 7) [.i2l] (ls' := [some (.ref a0), some (.int x1), some (.int x2), none]) (st' := [.long w.toInt64]) (by decide +kernel) rfl rfl ?_
        exact Go.lret rfl (by decide) (by decide) (by decide +kernel)
      | long w => exact no_none e
      | float w => exact no_none e
      | double w => exact no_none e
      | null => exact no_none e
      | ref w => exact no_none e
      | retAddr w => exact no_none e
  | inr E =>
    exact no_none e
def m_Q_plugOf : MI := (⟨"FairWallsLaw", "plugOf", "(LFairWalls;II)J"⟩, method_10_code, 4, (some .long), 9, 1, [(0, 7, 8, 34), (0, 7, 13, 15)])
theorem cw_Q_plugOf : codeW m_Q_plugOf ∈ GT := gtb 808 (by decide +kernel) (by decide +kernel)
theorem sw_Q_plugOf : Cond.static m_Q_plugOf.y ∈ GT := gtb 807 (by decide +kernel) (by decide +kernel)
theorem wv_Q_plugOf : WV "FairWallsLaw" 45 m_F_plugOf 2 := ⟨⟨gtb 809 (by decide +kernel) (by decide +kernel), iw_F_plugOf, cw_F_plugOf, rfl, by decide +kernel, by decide +kernel⟩, nw_F_plugOf, vw_F_plugOf⟩
def f_Q_plugOf (h : HP) (a0 : Nat) (x1 : Int32) (x2 : Int32) : Option (Int64 × HP) := (f_F_plugOf h a0 x1 x2).bind (wrapL [("java/lang/IndexOutOfBoundsException", xIX), ("java/lang/IllegalArgumentException", xAR)])
def g_Q_plugOf (h : HP) (a0 : Nat) (x1 : Int32) (x2 : Int32) : Option (Int64 × HP) := (f_F_plugOf h a0 x1 x2).bind wrapN
set_option maxHeartbeats 1000000 in
theorem x_Q_plugOf {l : Launch} {D : va_G} {ad : Nat → Nat} {aC : Nat → ClassId} (hf : l.flags = flags0) (hI : Inj ad) {h : HP} {a0 : Nat} {x1 : Int32} {x2 : Int32} {r : Int64 × HP} (k0 : knd a0 = 7) (e : f_Q_plugOf h a0 x1 x2 = some r) : CT l D ad aC m_Q_plugOf [.ref a0, .int x1, .int x2] h (.inl (some (.long r.1))) r.2 := by
  refine CT.ofGoH (by decide +kernel) rfl (Nat.le_of_ble_eq_true rfl) ?_
  unfold f_Q_plugOf at e
  show Go l D ad aC (rmk m_Q_plugOf) _ m_Q_plugOf 0 [some (.ref a0), some (.int x1), some (.int x2), none] [] h 0 0
  obtain ⟨⟨res, h1⟩, hr, e⟩ := bd_inv e
  have hct := x_F_plugOf (l := l) (D := D) (ad := ad) (aC := aC) hf hI k0 hr
  refine Go.run (pc' := 3) [.aload_n 0, .iload_n 1, .iload_n 2] (ls' := [some (.ref a0), some (.int x1), some (.int x2), none]) (st' := [.int x2, .int x1, .ref a0]) (by decide +kernel) rfl rfl ?_
  cases res with
  | inl v =>
    cases v with
    | none => exact no_none e
    | some w =>
      cases w with
      | int w =>
        obtain rfl := Option.some.inj e
        refine Go.callV (M2 := mr m_F_plugOf (.inl (some (.int w)))) (a := a0) (as := [.int x1, .int x2]) (rest := []) (h1 := h1) (v := some (.int w)) hct (WV.mr wv_Q_plugOf) k0 kc_7 (by decide +kernel) rfl rfl ⟨⟨Nat.le_of_ble_eq_true rfl, Nat.le_of_ble_eq_true rfl⟩, ⟨Nat.zero_le _, Nat.zero_le _⟩⟩ (Nat.le_of_ble_eq_true rfl) ?_
        show Go l D ad aC _ _ m_Q_plugOf 6 [some (.ref a0), some (.int x1), some (.int x2), none] [.int w] h1 0 0
        refine Go.run (pc' := 7) [.i2l] (ls' := [some (.ref a0), some (.int x1), some (.int x2), none]) (st' := [.long w.toInt64]) (by decide +kernel) rfl rfl ?_
        exact Go.lret rfl (by decide) (by decide) (by decide +kernel)
      | long w => exact no_none e
      | float w => exact no_none e
      | double w => exact no_none e
      | null => exact no_none e
      | ref w => exact no_none e
      | retAddr w => exact no_none e
  | inr E =>
    unfold wrapL at e
    dsimp only at e
    rcases Decidable.em ((([("java/lang/IndexOutOfBoundsException", xIX), ("java/lang/IllegalArgumentException", xAR)] : List (String × Int64))[0]?).map (fun q => q.1) = some E) with z0 | z0
    · replace e := ite_t z0 e
      obtain rfl : "java/lang/IndexOutOfBoundsException" = E := Option.some.inj z0
      obtain rfl := Option.some.inj e
      refine Go.caught (M2 := mr m_F_plugOf (.inr "java/lang/IndexOutOfBoundsException")) (a := a0) (as := [.int x1, .int x2]) (rest := []) (h1 := h1) (j := 3) (len := 1) hct (WV.mr wv_Q_plugOf) k0 kc_7 (by decide +kernel) rfl rfl ⟨⟨Nat.le_of_ble_eq_true rfl, Nat.le_of_ble_eq_true rfl⟩, ⟨Nat.le_of_ble_eq_true rfl, Nat.le_of_ble_eq_true rfl⟩⟩ (Nat.le_of_ble_eq_true rfl) (by decide) [] ⟨0, 7, 8, 34⟩ [⟨0, 7, 13, 15⟩] rfl (fun z hz => nomatch hz) (by decide) (by decide) cl_IndexOutOfBoundsException ca_IndexOutOfBoundsException (Or.inr ⟨3, by decide +kernel, rfl, rfl⟩) rfl ?_
      show Go l D ad aC _ _ m_Q_plugOf 9 [some (.ref a0), some (.int x1), some (.int x2), none] [] h1 1 6
      refine Go.ldc2 lx_Q_36 (by decide +kernel) ?_
      exact Go.lret rfl (by decide) (by decide) (by decide +kernel)
    replace e := ite_f z0 e
    rcases Decidable.em ((([("java/lang/IndexOutOfBoundsException", xIX), ("java/lang/IllegalArgumentException", xAR)] : List (String × Int64))[1]?).map (fun q => q.1) = some E) with z1 | z1
    · replace e := ite_t z1 e
      obtain rfl : "java/lang/IllegalArgumentException" = E := Option.some.inj z1
      obtain rfl := Option.some.inj e
      refine Go.caught (M2 := mr m_F_plugOf (.inr "java/lang/IllegalArgumentException")) (a := a0) (as := [.int x1, .int x2]) (rest := []) (h1 := h1) (j := 3) (len := 1) hct (WV.mr wv_Q_plugOf) k0 kc_7 (by decide +kernel) rfl rfl ⟨⟨Nat.le_of_ble_eq_true rfl, Nat.le_of_ble_eq_true rfl⟩, ⟨Nat.le_of_ble_eq_true rfl, Nat.le_of_ble_eq_true rfl⟩⟩ (Nat.le_of_ble_eq_true rfl) (by decide) [⟨0, 7, 8, 34⟩] ⟨0, 7, 13, 15⟩ [] rfl (fun z hz => by have e0 := List.mem_singleton.mp hz; subst e0; exact Or.inr ⟨by decide, "java/lang/IndexOutOfBoundsException", cl_IndexOutOfBoundsException, by decide⟩) (by decide) (by decide) cl_IllegalArgumentException ca_IllegalArgumentException (Or.inr ⟨3, by decide +kernel, rfl, rfl⟩) rfl ?_
      show Go l D ad aC _ _ m_Q_plugOf 14 [some (.ref a0), some (.int x1), some (.int x2), none] [] h1 1 6
      refine Go.ldc2 lx_Q_17 (by decide +kernel) ?_
      exact Go.lret rfl (by decide) (by decide) (by decide +kernel)
    replace e := ite_f z1 e
    exact no_none e
set_option maxHeartbeats 1000000 in
theorem xn_Q_plugOf {l : Launch} {D : va_G} {ad : Nat → Nat} {aC : Nat → ClassId} (hf : l.flags = flags0) (hI : Inj ad) {h : HP} {a0 : Nat} {x1 : Int32} {x2 : Int32} {r : Int64 × HP} (k0 : knd a0 = 7) (e : g_Q_plugOf h a0 x1 x2 = some r) : CT l D ad aC (mr m_Q_plugOf (.inl none)) [.ref a0, .int x1, .int x2] h (.inl (some (.long r.1))) r.2 := by
  refine CT.ofGoH (by decide +kernel) rfl (Nat.le_of_ble_eq_true rfl) ?_
  unfold g_Q_plugOf at e
  show Go l D ad aC (rmk (mr m_Q_plugOf (.inl none))) _ (mr m_Q_plugOf (.inl none)) 0 [some (.ref a0), some (.int x1), some (.int x2), none] [] h 0 0
  obtain ⟨⟨res, h1⟩, hr, e⟩ := bd_inv e
  have hct := x_F_plugOf (l := l) (D := D) (ad := ad) (aC := aC) hf hI k0 hr
  refine Go.run (pc' := 3) [.aload_n 0, .iload_n 1, .iload_n 2] (ls' := [some (.ref a0), some (.int x1), some (.int x2), none]) (st' := [.int x2, .int x1, .ref a0]) (by decide +kernel) rfl rfl ?_
  cases res with
  | inl v =>
    cases v with
    | none => exact no_none e
    | some w =>
      cases w with
      | int w =>
        obtain rfl := Option.some.inj e
        refine Go.callV (M2 := mr m_F_plugOf (.inl (some (.int w)))) (a := a0) (as := [.int x1, .int x2]) (rest := []) (h1 := h1) (v := some (.int w)) hct (WV.mr wv_Q_plugOf) k0 kc_7 (by decide +kernel) rfl rfl ⟨⟨Nat.le_of_ble_eq_true rfl, Nat.le_of_ble_eq_true rfl⟩, ⟨Nat.zero_le _, Nat.zero_le _⟩⟩ (Nat.le_of_ble_eq_true rfl) ?_
        show Go l D ad aC _ _ (mr m_Q_plugOf (.inl none)) 6 [some (.ref a0), some (.int x1), some (.int x2), none] [.int w] h1 0 0
        refine Go.run (pc' := 7) [.i2l] (ls' := [some (.ref a0), some (.int x1), some (.int x2), none]) (st' := [.long w.toInt64]) (by decide +kernel) rfl rfl ?_
        exact Go.lret rfl (by decide) (by decide) (by decide +kernel)
      | long w => exact no_none e
      | float w => exact no_none e
      | double w => exact no_none e
      | null => exact no_none e
      | ref w => exact no_none e
      | retAddr w => exact no_none e
  | inr E =>
    exact no_none e
def m_Q_setting : MI := (⟨"FairWallsLaw", "setting", "(LFairWalls;I)J"⟩, method_11_code, 3, (some .long), 9, 1, [(0, 6, 7, 15)])
theorem cw_Q_setting : codeW m_Q_setting ∈ GT := gtb 742 (by decide +kernel) (by decide +kernel)
theorem sw_Q_setting : Cond.static m_Q_setting.y ∈ GT := gtb 741 (by decide +kernel) (by decide +kernel)
theorem wv_Q_setting : WV "FairWallsLaw" 48 m_F_setting 1 := ⟨⟨gtb 743 (by decide +kernel) (by decide +kernel), iw_F_setting, cw_F_setting, rfl, by decide +kernel, by decide +kernel⟩, nw_F_setting, vw_F_setting⟩
def f_Q_setting (h : HP) (a0 : Nat) (x1 : Int32) : Option (Int64 × HP) := (f_F_setting h a0 x1).bind (wrapL [("java/lang/IllegalArgumentException", xAR)])
def g_Q_setting (h : HP) (a0 : Nat) (x1 : Int32) : Option (Int64 × HP) := (f_F_setting h a0 x1).bind wrapN
set_option maxHeartbeats 1000000 in
theorem x_Q_setting {l : Launch} {D : va_G} {ad : Nat → Nat} {aC : Nat → ClassId} (hf : l.flags = flags0) (hI : Inj ad) {h : HP} {a0 : Nat} {x1 : Int32} {r : Int64 × HP} (k0 : knd a0 = 7) (e : f_Q_setting h a0 x1 = some r) : CT l D ad aC m_Q_setting [.ref a0, .int x1] h (.inl (some (.long r.1))) r.2 := by
  refine CT.ofGoH (by decide +kernel) rfl (Nat.le_of_ble_eq_true rfl) ?_
  unfold f_Q_setting at e
  show Go l D ad aC (rmk m_Q_setting) _ m_Q_setting 0 [some (.ref a0), some (.int x1), none] [] h 0 0
  obtain ⟨⟨res, h1⟩, hr, e⟩ := bd_inv e
  have hct := x_F_setting (l := l) (D := D) (ad := ad) (aC := aC) hf hI k0 hr
  refine Go.run (pc' := 2) [.aload_n 0, .iload_n 1] (ls' := [some (.ref a0), some (.int x1), none]) (st' := [.int x1, .ref a0]) (by decide +kernel) rfl rfl ?_
  cases res with
  | inl v =>
    cases v with
    | none => exact no_none e
    | some w =>
      cases w with
      | int w =>
        obtain rfl := Option.some.inj e
        refine Go.callV (M2 := mr m_F_setting (.inl (some (.int w)))) (a := a0) (as := [.int x1]) (rest := []) (h1 := h1) (v := some (.int w)) hct (WV.mr wv_Q_setting) k0 kc_7 (by decide +kernel) rfl rfl ⟨⟨Nat.le_of_ble_eq_true rfl, Nat.le_of_ble_eq_true rfl⟩, ⟨Nat.zero_le _, Nat.zero_le _⟩⟩ (Nat.le_of_ble_eq_true rfl) ?_
        show Go l D ad aC _ _ m_Q_setting 5 [some (.ref a0), some (.int x1), none] [.int w] h1 0 0
        refine Go.run (pc' := 6) [.i2l] (ls' := [some (.ref a0), some (.int x1), none]) (st' := [.long w.toInt64]) (by decide +kernel) rfl rfl ?_
        exact Go.lret rfl (by decide) (by decide) (by decide +kernel)
      | long w => exact no_none e
      | float w => exact no_none e
      | double w => exact no_none e
      | null => exact no_none e
      | ref w => exact no_none e
      | retAddr w => exact no_none e
  | inr E =>
    unfold wrapL at e
    dsimp only at e
    rcases Decidable.em ((([("java/lang/IllegalArgumentException", xAR)] : List (String × Int64))[0]?).map (fun q => q.1) = some E) with z0 | z0
    · replace e := ite_t z0 e
      obtain rfl : "java/lang/IllegalArgumentException" = E := Option.some.inj z0
      obtain rfl := Option.some.inj e
      refine Go.caught (M2 := mr m_F_setting (.inr "java/lang/IllegalArgumentException")) (a := a0) (as := [.int x1]) (rest := []) (h1 := h1) (j := 2) (len := 1) hct (WV.mr wv_Q_setting) k0 kc_7 (by decide +kernel) rfl rfl ⟨⟨Nat.le_of_ble_eq_true rfl, Nat.le_of_ble_eq_true rfl⟩, ⟨Nat.le_of_ble_eq_true rfl, Nat.le_of_ble_eq_true rfl⟩⟩ (Nat.le_of_ble_eq_true rfl) (by decide) [] ⟨0, 6, 7, 15⟩ [] rfl (fun z hz => nomatch hz) (by decide) (by decide) cl_IllegalArgumentException ca_IllegalArgumentException (Or.inr ⟨2, by decide +kernel, rfl, rfl⟩) rfl ?_
      show Go l D ad aC _ _ m_Q_setting 8 [some (.ref a0), some (.int x1), none] [] h1 1 6
      refine Go.ldc2 lx_Q_17 (by decide +kernel) ?_
      exact Go.lret rfl (by decide) (by decide) (by decide +kernel)
    replace e := ite_f z0 e
    replace e := ite_f (show ¬ ((([("java/lang/IllegalArgumentException", xAR)] : List (String × Int64))[1]?).map (fun q => q.1) = some E) by simp) e
    exact no_none e
set_option maxHeartbeats 1000000 in
theorem xn_Q_setting {l : Launch} {D : va_G} {ad : Nat → Nat} {aC : Nat → ClassId} (hf : l.flags = flags0) (hI : Inj ad) {h : HP} {a0 : Nat} {x1 : Int32} {r : Int64 × HP} (k0 : knd a0 = 7) (e : g_Q_setting h a0 x1 = some r) : CT l D ad aC (mr m_Q_setting (.inl none)) [.ref a0, .int x1] h (.inl (some (.long r.1))) r.2 := by
  refine CT.ofGoH (by decide +kernel) rfl (Nat.le_of_ble_eq_true rfl) ?_
  unfold g_Q_setting at e
  show Go l D ad aC (rmk (mr m_Q_setting (.inl none))) _ (mr m_Q_setting (.inl none)) 0 [some (.ref a0), some (.int x1), none] [] h 0 0
  obtain ⟨⟨res, h1⟩, hr, e⟩ := bd_inv e
  have hct := x_F_setting (l := l) (D := D) (ad := ad) (aC := aC) hf hI k0 hr
  refine Go.run (pc' := 2) [.aload_n 0, .iload_n 1] (ls' := [some (.ref a0), some (.int x1), none]) (st' := [.int x1, .ref a0]) (by decide +kernel) rfl rfl ?_
  cases res with
  | inl v =>
    cases v with
    | none => exact no_none e
    | some w =>
      cases w with
      | int w =>
        obtain rfl := Option.some.inj e
        refine Go.callV (M2 := mr m_F_setting (.inl (some (.int w)))) (a := a0) (as := [.int x1]) (rest := []) (h1 := h1) (v := some (.int w)) hct (WV.mr wv_Q_setting) k0 kc_7 (by decide +kernel) rfl rfl ⟨⟨Nat.le_of_ble_eq_true rfl, Nat.le_of_ble_eq_true rfl⟩, ⟨Nat.zero_le _, Nat.zero_le _⟩⟩ (Nat.le_of_ble_eq_true rfl) ?_
        show Go l D ad aC _ _ (mr m_Q_setting (.inl none)) 5 [some (.ref a0), some (.int x1), none] [.int w] h1 0 0
        refine Go.run (pc' := 6) [.i2l] (ls' := [some (.ref a0), some (.int x1), none]) (st' := [.long w.toInt64]) (by decide +kernel) rfl rfl ?_
        exact Go.lret rfl (by decide) (by decide) (by decide +kernel)
      | long w => exact no_none e
      | float w => exact no_none e
      | double w => exact no_none e
      | null => exact no_none e
      | ref w => exact no_none e
      | retAddr w => exact no_none e
  | inr E =>
    exact no_none e
def m_Q_free : MI := (⟨"FairWallsLaw", "free", "(LFairWalls;II)J"⟩, method_12_code, 4, (some .long), 9, 1, [(0, 7, 8, 34), (0, 7, 13, 15)])
theorem cw_Q_free : codeW m_Q_free ∈ GT := gtb 820 (by decide +kernel) (by decide +kernel)
theorem sw_Q_free : Cond.static m_Q_free.y ∈ GT := gtb 819 (by decide +kernel) (by decide +kernel)
theorem wv_Q_free : WV "FairWallsLaw" 51 m_F_free 2 := ⟨⟨gtb 821 (by decide +kernel) (by decide +kernel), iw_F_free, cw_F_free, rfl, by decide +kernel, by decide +kernel⟩, nw_F_free, vw_F_free⟩
def f_Q_free (h : HP) (a0 : Nat) (x1 : Int32) (x2 : Int32) : Option (Int64 × HP) := (f_F_free h a0 x1 x2).bind (wrapL [("java/lang/IndexOutOfBoundsException", xIX), ("java/lang/IllegalArgumentException", xAR)])
def g_Q_free (h : HP) (a0 : Nat) (x1 : Int32) (x2 : Int32) : Option (Int64 × HP) := (f_F_free h a0 x1 x2).bind wrapN
set_option maxHeartbeats 1000000 in
theorem x_Q_free {l : Launch} {D : va_G} {ad : Nat → Nat} {aC : Nat → ClassId} (hf : l.flags = flags0) (hI : Inj ad) {h : HP} {a0 : Nat} {x1 : Int32} {x2 : Int32} {r : Int64 × HP} (k0 : knd a0 = 7) (e : f_Q_free h a0 x1 x2 = some r) : CT l D ad aC m_Q_free [.ref a0, .int x1, .int x2] h (.inl (some (.long r.1))) r.2 := by
  refine CT.ofGoH (by decide +kernel) rfl (Nat.le_of_ble_eq_true rfl) ?_
  unfold f_Q_free at e
  show Go l D ad aC (rmk m_Q_free) _ m_Q_free 0 [some (.ref a0), some (.int x1), some (.int x2), none] [] h 0 0
  obtain ⟨⟨res, h1⟩, hr, e⟩ := bd_inv e
  have hct := x_F_free (l := l) (D := D) (ad := ad) (aC := aC) hf hI k0 hr
  refine Go.run (pc' := 3) [.aload_n 0, .iload_n 1, .iload_n 2] (ls' := [some (.ref a0), some (.int x1), some (.int x2), none]) (st' := [.int x2, .int x1, .ref a0]) (by decide +kernel) rfl rfl ?_
  cases res with
  | inl v =>
    cases v with
    | none => exact no_none e
    | some w =>
      cases w with
      | int w =>
        obtain rfl := Option.some.inj e
        refine Go.callV (M2 := mr m_F_free (.inl (some (.int w)))) (a := a0) (as := [.int x1, .int x2]) (rest := []) (h1 := h1) (v := some (.int w)) hct (WV.mr wv_Q_free) k0 kc_7 (by decide +kernel) rfl rfl ⟨⟨Nat.le_of_ble_eq_true rfl, Nat.le_of_ble_eq_true rfl⟩, ⟨Nat.zero_le _, Nat.zero_le _⟩⟩ (Nat.le_of_ble_eq_true rfl) ?_
        show Go l D ad aC _ _ m_Q_free 6 [some (.ref a0), some (.int x1), some (.int x2), none] [.int w] h1 0 0
        refine Go.run (pc' := 7) [.i2l] (ls' := [some (.ref a0), some (.int x1), some (.int x2), none]) (st' := [.long w.toInt64]) (by decide +kernel) rfl rfl ?_
        exact Go.lret rfl (by decide) (by decide) (by decide +kernel)
      | long w => exact no_none e
      | float w => exact no_none e
      | double w => exact no_none e
      | null => exact no_none e
      | ref w => exact no_none e
      | retAddr w => exact no_none e
  | inr E =>
    unfold wrapL at e
    dsimp only at e
    rcases Decidable.em ((([("java/lang/IndexOutOfBoundsException", xIX), ("java/lang/IllegalArgumentException", xAR)] : List (String × Int64))[0]?).map (fun q => q.1) = some E) with z0 | z0
    · replace e := ite_t z0 e
      obtain rfl : "java/lang/IndexOutOfBoundsException" = E := Option.some.inj z0
      obtain rfl := Option.some.inj e
      refine Go.caught (M2 := mr m_F_free (.inr "java/lang/IndexOutOfBoundsException")) (a := a0) (as := [.int x1, .int x2]) (rest := []) (h1 := h1) (j := 3) (len := 1) hct (WV.mr wv_Q_free) k0 kc_7 (by decide +kernel) rfl rfl ⟨⟨Nat.le_of_ble_eq_true rfl, Nat.le_of_ble_eq_true rfl⟩, ⟨Nat.le_of_ble_eq_true rfl, Nat.le_of_ble_eq_true rfl⟩⟩ (Nat.le_of_ble_eq_true rfl) (by decide) [] ⟨0, 7, 8, 34⟩ [⟨0, 7, 13, 15⟩] rfl (fun z hz => nomatch hz) (by decide) (by decide) cl_IndexOutOfBoundsException ca_IndexOutOfBoundsException (Or.inr ⟨3, by decide +kernel, rfl, rfl⟩) rfl ?_
      show Go l D ad aC _ _ m_Q_free 9 [some (.ref a0), some (.int x1), some (.int x2), none] [] h1 1 6
      refine Go.ldc2 lx_Q_36 (by decide +kernel) ?_
      exact Go.lret rfl (by decide) (by decide) (by decide +kernel)
    replace e := ite_f z0 e
    rcases Decidable.em ((([("java/lang/IndexOutOfBoundsException", xIX), ("java/lang/IllegalArgumentException", xAR)] : List (String × Int64))[1]?).map (fun q => q.1) = some E) with z1 | z1
    · replace e := ite_t z1 e
      obtain rfl : "java/lang/IllegalArgumentException" = E := Option.some.inj z1
      obtain rfl := Option.some.inj e
      refine Go.caught (M2 := mr m_F_free (.inr "java/lang/IllegalArgumentException")) (a := a0) (as := [.int x1, .int x2]) (rest := []) (h1 := h1) (j := 3) (len := 1) hct (WV.mr wv_Q_free) k0 kc_7 (by decide +kernel) rfl rfl ⟨⟨Nat.le_of_ble_eq_true rfl, Nat.le_of_ble_eq_true rfl⟩, ⟨Nat.le_of_ble_eq_true rfl, Nat.le_of_ble_eq_true rfl⟩⟩ (Nat.le_of_ble_eq_true rfl) (by decide) [⟨0, 7, 8, 34⟩] ⟨0, 7, 13, 15⟩ [] rfl (fun z hz => by have e0 := List.mem_singleton.mp hz; subst e0; exact Or.inr ⟨by decide, "java/lang/IndexOutOfBoundsException", cl_IndexOutOfBoundsException, by decide⟩) (by decide) (by decide) cl_IllegalArgumentException ca_IllegalArgumentException (Or.inr ⟨3, by decide +kernel, rfl, rfl⟩) rfl ?_
      show Go l D ad aC _ _ m_Q_free 14 [some (.ref a0), some (.int x1), some (.int x2), none] [] h1 1 6
      refine Go.ldc2 lx_Q_17 (by decide +kernel) ?_
      exact Go.lret rfl (by decide) (by decide) (by decide +kernel)
    replace e := ite_f z1 e
    exact no_none e
set_option maxHeartbeats 1000000 in
theorem xn_Q_free {l : Launch} {D : va_G} {ad : Nat → Nat} {aC : Nat → ClassId} (hf : l.flags = flags0) (hI : Inj ad) {h : HP} {a0 : Nat} {x1 : Int32} {x2 : Int32} {r : Int64 × HP} (k0 : knd a0 = 7) (e : g_Q_free h a0 x1 x2 = some r) : CT l D ad aC (mr m_Q_free (.inl none)) [.ref a0, .int x1, .int x2] h (.inl (some (.long r.1))) r.2 := by
  refine CT.ofGoH (by decide +kernel) rfl (Nat.le_of_ble_eq_true rfl) ?_
  unfold g_Q_free at e
  show Go l D ad aC (rmk (mr m_Q_free (.inl none))) _ (mr m_Q_free (.inl none)) 0 [some (.ref a0), some (.int x1), some (.int x2), none] [] h 0 0
  obtain ⟨⟨res, h1⟩, hr, e⟩ := bd_inv e
  have hct := x_F_free (l := l) (D := D) (ad := ad) (aC := aC) hf hI k0 hr
  refine Go.run (pc' := 3) [.aload_n 0, .iload_n 1, .iload_n 2] (ls' := [some (.ref a0), some (.int x1), some (.int x2), none]) (st' := [.int x2, .int x1, .ref a0]) (by decide +kernel) rfl rfl ?_
  cases res with
  | inl v =>
    cases v with
    | none => exact no_none e
    | some w =>
      cases w with
      | int w =>
        obtain rfl := Option.some.inj e
        refine Go.callV (M2 := mr m_F_free (.inl (some (.int w)))) (a := a0) (as := [.int x1, .int x2]) (rest := []) (h1 := h1) (v := some (.int w)) hct (WV.mr wv_Q_free) k0 kc_7 (by decide +kernel) rfl rfl ⟨⟨Nat.le_of_ble_eq_true rfl, Nat.le_of_ble_eq_true rfl⟩, ⟨Nat.zero_le _, Nat.zero_le _⟩⟩ (Nat.le_of_ble_eq_true rfl) ?_
        show Go l D ad aC _ _ (mr m_Q_free (.inl none)) 6 [some (.ref a0), some (.int x1), some (.int x2), none] [.int w] h1 0 0
        refine Go.run (pc' := 7) [.i2l] (ls' := [some (.ref a0), some (.int x1), some (.int x2), none]) (st' := [.long w.toInt64]) (by decide +kernel) rfl rfl ?_
        exact Go.lret rfl (by decide) (by decide) (by decide +kernel)
      | long w => exact no_none e
      | float w => exact no_none e
      | double w => exact no_none e
      | null => exact no_none e
      | ref w => exact no_none e
      | retAddr w => exact no_none e
  | inr E =>
    exact no_none e
def m_Q_wall : MI := (⟨"FairWallsLaw", "wall", "(LFairWalls;I)J"⟩, method_13_code, 3, (some .long), 9, 1, [(0, 6, 7, 15), (0, 6, 12, 19)])
theorem cw_Q_wall : codeW m_Q_wall ∈ GT := gtb 832 (by decide +kernel) (by decide +kernel)
theorem sw_Q_wall : Cond.static m_Q_wall.y ∈ GT := gtb 831 (by decide +kernel) (by decide +kernel)
theorem wv_Q_wall : WV "FairWallsLaw" 54 m_F_wall 1 := ⟨⟨gtb 833 (by decide +kernel) (by decide +kernel), iw_F_wall, cw_F_wall, rfl, by decide +kernel, by decide +kernel⟩, nw_F_wall, vw_F_wall⟩
def f_Q_wall (h : HP) (a0 : Nat) (x1 : Int32) : Option (Int64 × HP) := (f_F_wall h a0 x1).bind (wrapL [("java/lang/IllegalArgumentException", xAR), ("java/lang/IllegalStateException", xST)])
set_option maxHeartbeats 1000000 in
theorem x_Q_wall {l : Launch} {D : va_G} {ad : Nat → Nat} {aC : Nat → ClassId} (hf : l.flags = flags0) (hI : Inj ad) {h : HP} {a0 : Nat} {x1 : Int32} {r : Int64 × HP} (k0 : knd a0 = 7) (e : f_Q_wall h a0 x1 = some r) : CT l D ad aC m_Q_wall [.ref a0, .int x1] h (.inl (some (.long r.1))) r.2 := by
  refine CT.ofGoH (by decide +kernel) rfl (Nat.le_of_ble_eq_true rfl) ?_
  unfold f_Q_wall at e
  show Go l D ad aC (rmk m_Q_wall) _ m_Q_wall 0 [some (.ref a0), some (.int x1), none] [] h 0 0
  obtain ⟨⟨res, h1⟩, hr, e⟩ := bd_inv e
  have hct := x_F_wall (l := l) (D := D) (ad := ad) (aC := aC) hf hI k0 hr
  refine Go.run (pc' := 2) [.aload_n 0, .iload_n 1] (ls' := [some (.ref a0), some (.int x1), none]) (st' := [.int x1, .ref a0]) (by decide +kernel) rfl rfl ?_
  cases res with
  | inl v =>
    cases v with
    | none => exact no_none e
    | some w =>
      cases w with
      | int w =>
        obtain rfl := Option.some.inj e
        refine Go.callV (M2 := mr m_F_wall (.inl (some (.int w)))) (a := a0) (as := [.int x1]) (rest := []) (h1 := h1) (v := some (.int w)) hct (WV.mr wv_Q_wall) k0 kc_7 (by decide +kernel) rfl rfl ⟨⟨Nat.le_of_ble_eq_true rfl, Nat.le_of_ble_eq_true rfl⟩, ⟨Nat.zero_le _, Nat.zero_le _⟩⟩ (Nat.le_of_ble_eq_true rfl) ?_
        show Go l D ad aC _ _ m_Q_wall 5 [some (.ref a0), some (.int x1), none] [.int w] h1 0 0
        refine Go.run (pc' := 6) [.i2l] (ls' := [some (.ref a0), some (.int x1), none]) (st' := [.long w.toInt64]) (by decide +kernel) rfl rfl ?_
        exact Go.lret rfl (by decide) (by decide) (by decide +kernel)
      | long w => exact no_none e
      | float w => exact no_none e
      | double w => exact no_none e
      | null => exact no_none e
      | ref w => exact no_none e
      | retAddr w => exact no_none e
  | inr E =>
    unfold wrapL at e
    dsimp only at e
    rcases Decidable.em ((([("java/lang/IllegalArgumentException", xAR), ("java/lang/IllegalStateException", xST)] : List (String × Int64))[0]?).map (fun q => q.1) = some E) with z0 | z0
    · replace e := ite_t z0 e
      obtain rfl : "java/lang/IllegalArgumentException" = E := Option.some.inj z0
      obtain rfl := Option.some.inj e
      refine Go.caught (M2 := mr m_F_wall (.inr "java/lang/IllegalArgumentException")) (a := a0) (as := [.int x1]) (rest := []) (h1 := h1) (j := 2) (len := 1) hct (WV.mr wv_Q_wall) k0 kc_7 (by decide +kernel) rfl rfl ⟨⟨Nat.le_of_ble_eq_true rfl, Nat.le_of_ble_eq_true rfl⟩, ⟨Nat.le_of_ble_eq_true rfl, Nat.le_of_ble_eq_true rfl⟩⟩ (Nat.le_of_ble_eq_true rfl) (by decide) [] ⟨0, 6, 7, 15⟩ [⟨0, 6, 12, 19⟩] rfl (fun z hz => nomatch hz) (by decide) (by decide) cl_IllegalArgumentException ca_IllegalArgumentException (Or.inr ⟨2, by decide +kernel, rfl, rfl⟩) rfl ?_
      show Go l D ad aC _ _ m_Q_wall 8 [some (.ref a0), some (.int x1), none] [] h1 1 6
      refine Go.ldc2 lx_Q_17 (by decide +kernel) ?_
      exact Go.lret rfl (by decide) (by decide) (by decide +kernel)
    replace e := ite_f z0 e
    rcases Decidable.em ((([("java/lang/IllegalArgumentException", xAR), ("java/lang/IllegalStateException", xST)] : List (String × Int64))[1]?).map (fun q => q.1) = some E) with z1 | z1
    · replace e := ite_t z1 e
      obtain rfl : "java/lang/IllegalStateException" = E := Option.some.inj z1
      obtain rfl := Option.some.inj e
      refine Go.caught (M2 := mr m_F_wall (.inr "java/lang/IllegalStateException")) (a := a0) (as := [.int x1]) (rest := []) (h1 := h1) (j := 2) (len := 1) hct (WV.mr wv_Q_wall) k0 kc_7 (by decide +kernel) rfl rfl ⟨⟨Nat.le_of_ble_eq_true rfl, Nat.le_of_ble_eq_true rfl⟩, ⟨Nat.le_of_ble_eq_true rfl, Nat.le_of_ble_eq_true rfl⟩⟩ (Nat.le_of_ble_eq_true rfl) (by decide) [⟨0, 6, 7, 15⟩] ⟨0, 6, 12, 19⟩ [] rfl (fun z hz => by have e0 := List.mem_singleton.mp hz; subst e0; exact Or.inr ⟨by decide, "java/lang/IllegalArgumentException", cl_IllegalArgumentException, by decide⟩) (by decide) (by decide) cl_IllegalStateException ca_IllegalStateException (Or.inr ⟨2, by decide +kernel, rfl, rfl⟩) rfl ?_
      show Go l D ad aC _ _ m_Q_wall 13 [some (.ref a0), some (.int x1), none] [] h1 1 6
      refine Go.ldc2 lx_Q_21 (by decide +kernel) ?_
      exact Go.lret rfl (by decide) (by decide) (by decide +kernel)
    replace e := ite_f z1 e
    exact no_none e
def m_Q_outlet : MI := (⟨"FairWallsLaw", "outlet", "(LFairWalls;III)J"⟩, method_14_code, 5, (some .long), 9, 1, [(0, 8, 9, 34), (0, 8, 15, 15)])
theorem cw_Q_outlet : codeW m_Q_outlet ∈ GT := gtb 850 (by decide +kernel) (by decide +kernel)
theorem sw_Q_outlet : Cond.static m_Q_outlet.y ∈ GT := gtb 849 (by decide +kernel) (by decide +kernel)
theorem wv_Q_outlet : WV "FairWallsLaw" 57 m_F_outlet 3 := ⟨⟨gtb 851 (by decide +kernel) (by decide +kernel), iw_F_outlet, cw_F_outlet, rfl, by decide +kernel, by decide +kernel⟩, nw_F_outlet, vw_F_outlet⟩
def f_Q_outlet (h : HP) (a0 : Nat) (x1 : Int32) (x2 : Int32) (x3 : Int32) : Option (Int64 × HP) := (f_F_outlet h a0 x1 x2 x3).bind (wrapL [("java/lang/IndexOutOfBoundsException", xIX), ("java/lang/IllegalArgumentException", xAR)])
set_option maxHeartbeats 1000000 in
theorem x_Q_outlet {l : Launch} {D : va_G} {ad : Nat → Nat} {aC : Nat → ClassId} (hf : l.flags = flags0) (hI : Inj ad) {h : HP} {a0 : Nat} {x1 : Int32} {x2 : Int32} {x3 : Int32} {r : Int64 × HP} (k0 : knd a0 = 7) (e : f_Q_outlet h a0 x1 x2 x3 = some r) : CT l D ad aC m_Q_outlet [.ref a0, .int x1, .int x2, .int x3] h (.inl (some (.long r.1))) r.2 := by
  refine CT.ofGoH (by decide +kernel) rfl (Nat.le_of_ble_eq_true rfl) ?_
  unfold f_Q_outlet at e
  show Go l D ad aC (rmk m_Q_outlet) _ m_Q_outlet 0 [some (.ref a0), some (.int x1), some (.int x2), some (.int x3), none] [] h 0 0
  obtain ⟨⟨res, h1⟩, hr, e⟩ := bd_inv e
  have hct := x_F_outlet (l := l) (D := D) (ad := ad) (aC := aC) hf hI k0 hr
  refine Go.run (pc' := 4) [.aload_n 0, .iload_n 1, .iload_n 2, .iload_n 3] (ls' := [some (.ref a0), some (.int x1), some (.int x2), some (.int x3), none]) (st' := [.int x3, .int x2, .int x1, .ref a0]) (by decide +kernel) rfl rfl ?_
  cases res with
  | inl v =>
    cases v with
    | none => exact no_none e
    | some w =>
      cases w with
      | int w =>
        obtain rfl := Option.some.inj e
        refine Go.callV (M2 := mr m_F_outlet (.inl (some (.int w)))) (a := a0) (as := [.int x1, .int x2, .int x3]) (rest := []) (h1 := h1) (v := some (.int w)) hct (WV.mr wv_Q_outlet) k0 kc_7 (by decide +kernel) rfl rfl ⟨⟨Nat.le_of_ble_eq_true rfl, Nat.le_of_ble_eq_true rfl⟩, ⟨Nat.zero_le _, Nat.zero_le _⟩⟩ (Nat.le_of_ble_eq_true rfl) ?_
        show Go l D ad aC _ _ m_Q_outlet 7 [some (.ref a0), some (.int x1), some (.int x2), some (.int x3), none] [.int w] h1 0 0
        refine Go.run (pc' := 8) [.i2l] (ls' := [some (.ref a0), some (.int x1), some (.int x2), some (.int x3), none]) (st' := [.long w.toInt64]) (by decide +kernel) rfl rfl ?_
        exact Go.lret rfl (by decide) (by decide) (by decide +kernel)
      | long w => exact no_none e
      | float w => exact no_none e
      | double w => exact no_none e
      | null => exact no_none e
      | ref w => exact no_none e
      | retAddr w => exact no_none e
  | inr E =>
    unfold wrapL at e
    dsimp only at e
    rcases Decidable.em ((([("java/lang/IndexOutOfBoundsException", xIX), ("java/lang/IllegalArgumentException", xAR)] : List (String × Int64))[0]?).map (fun q => q.1) = some E) with z0 | z0
    · replace e := ite_t z0 e
      obtain rfl : "java/lang/IndexOutOfBoundsException" = E := Option.some.inj z0
      obtain rfl := Option.some.inj e
      refine Go.caught (M2 := mr m_F_outlet (.inr "java/lang/IndexOutOfBoundsException")) (a := a0) (as := [.int x1, .int x2, .int x3]) (rest := []) (h1 := h1) (j := 4) (len := 2) hct (WV.mr wv_Q_outlet) k0 kc_7 (by decide +kernel) rfl rfl ⟨⟨Nat.le_of_ble_eq_true rfl, Nat.le_of_ble_eq_true rfl⟩, ⟨Nat.le_of_ble_eq_true rfl, Nat.le_of_ble_eq_true rfl⟩⟩ (Nat.le_of_ble_eq_true rfl) (by decide) [] ⟨0, 8, 9, 34⟩ [⟨0, 8, 15, 15⟩] rfl (fun z hz => nomatch hz) (by decide) (by decide) cl_IndexOutOfBoundsException ca_IndexOutOfBoundsException (Or.inl ⟨by decide +kernel, rfl⟩) rfl ?_
      show Go l D ad aC _ _ m_Q_outlet 11 [some (.ref a0), some (.int x1), some (.int x2), some (.int x3), none] [] h1 1 6
      refine Go.ldc2 lx_Q_36 (by decide +kernel) ?_
      exact Go.lret rfl (by decide) (by decide) (by decide +kernel)
    replace e := ite_f z0 e
    rcases Decidable.em ((([("java/lang/IndexOutOfBoundsException", xIX), ("java/lang/IllegalArgumentException", xAR)] : List (String × Int64))[1]?).map (fun q => q.1) = some E) with z1 | z1
    · replace e := ite_t z1 e
      obtain rfl : "java/lang/IllegalArgumentException" = E := Option.some.inj z1
      obtain rfl := Option.some.inj e
      refine Go.caught (M2 := mr m_F_outlet (.inr "java/lang/IllegalArgumentException")) (a := a0) (as := [.int x1, .int x2, .int x3]) (rest := []) (h1 := h1) (j := 4) (len := 2) hct (WV.mr wv_Q_outlet) k0 kc_7 (by decide +kernel) rfl rfl ⟨⟨Nat.le_of_ble_eq_true rfl, Nat.le_of_ble_eq_true rfl⟩, ⟨Nat.le_of_ble_eq_true rfl, Nat.le_of_ble_eq_true rfl⟩⟩ (Nat.le_of_ble_eq_true rfl) (by decide) [⟨0, 8, 9, 34⟩] ⟨0, 8, 15, 15⟩ [] rfl (fun z hz => by have e0 := List.mem_singleton.mp hz; subst e0; exact Or.inr ⟨by decide, "java/lang/IndexOutOfBoundsException", cl_IndexOutOfBoundsException, by decide⟩) (by decide) (by decide) cl_IllegalArgumentException ca_IllegalArgumentException (Or.inl ⟨by decide +kernel, rfl⟩) rfl ?_
      show Go l D ad aC _ _ m_Q_outlet 17 [some (.ref a0), some (.int x1), some (.int x2), some (.int x3), none] [] h1 1 6
      refine Go.ldc2 lx_Q_17 (by decide +kernel) ?_
      exact Go.lret rfl (by decide) (by decide) (by decide +kernel)
    replace e := ite_f z1 e
    exact no_none e
def m_Q_dealer : MI := (⟨"FairWallsLaw", "dealer", "(LFairWalls;III)J"⟩, method_15_code, 5, (some .long), 9, 1, [(0, 8, 9, 15), (0, 8, 15, 19)])
theorem cw_Q_dealer : codeW m_Q_dealer ∈ GT := gtb 858 (by decide +kernel) (by decide +kernel)
theorem sw_Q_dealer : Cond.static m_Q_dealer.y ∈ GT := gtb 857 (by decide +kernel) (by decide +kernel)
theorem wv_Q_dealer : WV "FairWallsLaw" 60 m_F_dealer 3 := ⟨⟨gtb 859 (by decide +kernel) (by decide +kernel), iw_F_dealer, cw_F_dealer, rfl, by decide +kernel, by decide +kernel⟩, nw_F_dealer, vw_F_dealer⟩
def f_Q_dealer (h : HP) (a0 : Nat) (x1 : Int32) (x2 : Int32) (x3 : Int32) : Option (Int64 × HP) := (f_F_dealer h a0 x1 x2 x3).bind (wrapL [("java/lang/IllegalArgumentException", xAR), ("java/lang/IllegalStateException", xST)])
set_option maxHeartbeats 1000000 in
theorem x_Q_dealer {l : Launch} {D : va_G} {ad : Nat → Nat} {aC : Nat → ClassId} (hf : l.flags = flags0) (hI : Inj ad) {h : HP} {a0 : Nat} {x1 : Int32} {x2 : Int32} {x3 : Int32} {r : Int64 × HP} (k0 : knd a0 = 7) (e : f_Q_dealer h a0 x1 x2 x3 = some r) : CT l D ad aC m_Q_dealer [.ref a0, .int x1, .int x2, .int x3] h (.inl (some (.long r.1))) r.2 := by
  refine CT.ofGoH (by decide +kernel) rfl (Nat.le_of_ble_eq_true rfl) ?_
  unfold f_Q_dealer at e
  show Go l D ad aC (rmk m_Q_dealer) _ m_Q_dealer 0 [some (.ref a0), some (.int x1), some (.int x2), some (.int x3), none] [] h 0 0
  obtain ⟨⟨res, h1⟩, hr, e⟩ := bd_inv e
  have hct := x_F_dealer (l := l) (D := D) (ad := ad) (aC := aC) hf hI k0 hr
  refine Go.run (pc' := 4) [.aload_n 0, .iload_n 1, .iload_n 2, .iload_n 3] (ls' := [some (.ref a0), some (.int x1), some (.int x2), some (.int x3), none]) (st' := [.int x3, .int x2, .int x1, .ref a0]) (by decide +kernel) rfl rfl ?_
  cases res with
  | inl v =>
    cases v with
    | none => exact no_none e
    | some w =>
      cases w with
      | int w =>
        obtain rfl := Option.some.inj e
        refine Go.callV (M2 := mr m_F_dealer (.inl (some (.int w)))) (a := a0) (as := [.int x1, .int x2, .int x3]) (rest := []) (h1 := h1) (v := some (.int w)) hct (WV.mr wv_Q_dealer) k0 kc_7 (by decide +kernel) rfl rfl ⟨⟨Nat.le_of_ble_eq_true rfl, Nat.le_of_ble_eq_true rfl⟩, ⟨Nat.zero_le _, Nat.zero_le _⟩⟩ (Nat.le_of_ble_eq_true rfl) ?_
        show Go l D ad aC _ _ m_Q_dealer 7 [some (.ref a0), some (.int x1), some (.int x2), some (.int x3), none] [.int w] h1 0 0
        refine Go.run (pc' := 8) [.i2l] (ls' := [some (.ref a0), some (.int x1), some (.int x2), some (.int x3), none]) (st' := [.long w.toInt64]) (by decide +kernel) rfl rfl ?_
        exact Go.lret rfl (by decide) (by decide) (by decide +kernel)
      | long w => exact no_none e
      | float w => exact no_none e
      | double w => exact no_none e
      | null => exact no_none e
      | ref w => exact no_none e
      | retAddr w => exact no_none e
  | inr E =>
    unfold wrapL at e
    dsimp only at e
    rcases Decidable.em ((([("java/lang/IllegalArgumentException", xAR), ("java/lang/IllegalStateException", xST)] : List (String × Int64))[0]?).map (fun q => q.1) = some E) with z0 | z0
    · replace e := ite_t z0 e
      obtain rfl : "java/lang/IllegalArgumentException" = E := Option.some.inj z0
      obtain rfl := Option.some.inj e
      refine Go.caught (M2 := mr m_F_dealer (.inr "java/lang/IllegalArgumentException")) (a := a0) (as := [.int x1, .int x2, .int x3]) (rest := []) (h1 := h1) (j := 4) (len := 2) hct (WV.mr wv_Q_dealer) k0 kc_7 (by decide +kernel) rfl rfl ⟨⟨Nat.le_of_ble_eq_true rfl, Nat.le_of_ble_eq_true rfl⟩, ⟨Nat.le_of_ble_eq_true rfl, Nat.le_of_ble_eq_true rfl⟩⟩ (Nat.le_of_ble_eq_true rfl) (by decide) [] ⟨0, 8, 9, 15⟩ [⟨0, 8, 15, 19⟩] rfl (fun z hz => nomatch hz) (by decide) (by decide) cl_IllegalArgumentException ca_IllegalArgumentException (Or.inl ⟨by decide +kernel, rfl⟩) rfl ?_
      show Go l D ad aC _ _ m_Q_dealer 11 [some (.ref a0), some (.int x1), some (.int x2), some (.int x3), none] [] h1 1 6
      refine Go.ldc2 lx_Q_17 (by decide +kernel) ?_
      exact Go.lret rfl (by decide) (by decide) (by decide +kernel)
    replace e := ite_f z0 e
    rcases Decidable.em ((([("java/lang/IllegalArgumentException", xAR), ("java/lang/IllegalStateException", xST)] : List (String × Int64))[1]?).map (fun q => q.1) = some E) with z1 | z1
    · replace e := ite_t z1 e
      obtain rfl : "java/lang/IllegalStateException" = E := Option.some.inj z1
      obtain rfl := Option.some.inj e
      refine Go.caught (M2 := mr m_F_dealer (.inr "java/lang/IllegalStateException")) (a := a0) (as := [.int x1, .int x2, .int x3]) (rest := []) (h1 := h1) (j := 4) (len := 2) hct (WV.mr wv_Q_dealer) k0 kc_7 (by decide +kernel) rfl rfl ⟨⟨Nat.le_of_ble_eq_true rfl, Nat.le_of_ble_eq_true rfl⟩, ⟨Nat.le_of_ble_eq_true rfl, Nat.le_of_ble_eq_true rfl⟩⟩ (Nat.le_of_ble_eq_true rfl) (by decide) [⟨0, 8, 9, 15⟩] ⟨0, 8, 15, 19⟩ [] rfl (fun z hz => by have e0 := List.mem_singleton.mp hz; subst e0; exact Or.inr ⟨by decide, "java/lang/IllegalArgumentException", cl_IllegalArgumentException, by decide⟩) (by decide) (by decide) cl_IllegalStateException ca_IllegalStateException (Or.inl ⟨by decide +kernel, rfl⟩) rfl ?_
      show Go l D ad aC _ _ m_Q_dealer 17 [some (.ref a0), some (.int x1), some (.int x2), some (.int x3), none] [] h1 1 6
      refine Go.ldc2 lx_Q_21 (by decide +kernel) ?_
      exact Go.lret rfl (by decide) (by decide) (by decide +kernel)
    replace e := ite_f z1 e
    exact no_none e
def m_Q_place : MI := (⟨"FairWallsLaw", "place", "(LFairWalls;III)J"⟩, method_16_code, 5, (some .long), 9, 1, [(0, 8, 9, 34)])
theorem cw_Q_place : codeW m_Q_place ∈ GT := gtb 867 (by decide +kernel) (by decide +kernel)
theorem sw_Q_place : Cond.static m_Q_place.y ∈ GT := gtb 866 (by decide +kernel) (by decide +kernel)
theorem wv_Q_place : WV "FairWallsLaw" 63 m_F_place 3 := ⟨⟨gtb 868 (by decide +kernel) (by decide +kernel), iw_F_place, cw_F_place, rfl, by decide +kernel, by decide +kernel⟩, nw_F_place, vw_F_place⟩
def f_Q_place (h : HP) (a0 : Nat) (x1 : Int32) (x2 : Int32) (x3 : Int32) : Option (Int64 × HP) := (f_F_place h a0 x1 x2 x3).bind (wrapL [("java/lang/IndexOutOfBoundsException", xIX)])
set_option maxHeartbeats 1000000 in
theorem x_Q_place {l : Launch} {D : va_G} {ad : Nat → Nat} {aC : Nat → ClassId} (hf : l.flags = flags0) (hI : Inj ad) {h : HP} {a0 : Nat} {x1 : Int32} {x2 : Int32} {x3 : Int32} {r : Int64 × HP} (k0 : knd a0 = 7) (e : f_Q_place h a0 x1 x2 x3 = some r) : CT l D ad aC m_Q_place [.ref a0, .int x1, .int x2, .int x3] h (.inl (some (.long r.1))) r.2 := by
  refine CT.ofGoH (by decide +kernel) rfl (Nat.le_of_ble_eq_true rfl) ?_
  unfold f_Q_place at e
  show Go l D ad aC (rmk m_Q_place) _ m_Q_place 0 [some (.ref a0), some (.int x1), some (.int x2), some (.int x3), none] [] h 0 0
  obtain ⟨⟨res, h1⟩, hr, e⟩ := bd_inv e
  have hct := x_F_place (l := l) (D := D) (ad := ad) (aC := aC) hf hI k0 hr
  refine Go.run (pc' := 4) [.aload_n 0, .iload_n 1, .iload_n 2, .iload_n 3] (ls' := [some (.ref a0), some (.int x1), some (.int x2), some (.int x3), none]) (st' := [.int x3, .int x2, .int x1, .ref a0]) (by decide +kernel) rfl rfl ?_
  cases res with
  | inl v =>
    cases v with
    | none => exact no_none e
    | some w =>
      cases w with
      | int w =>
        obtain rfl := Option.some.inj e
        refine Go.callV (M2 := mr m_F_place (.inl (some (.int w)))) (a := a0) (as := [.int x1, .int x2, .int x3]) (rest := []) (h1 := h1) (v := some (.int w)) hct (WV.mr wv_Q_place) k0 kc_7 (by decide +kernel) rfl rfl ⟨⟨Nat.le_of_ble_eq_true rfl, Nat.le_of_ble_eq_true rfl⟩, ⟨Nat.zero_le _, Nat.zero_le _⟩⟩ (Nat.le_of_ble_eq_true rfl) ?_
        show Go l D ad aC _ _ m_Q_place 7 [some (.ref a0), some (.int x1), some (.int x2), some (.int x3), none] [.int w] h1 0 0
        refine Go.run (pc' := 8) [.i2l] (ls' := [some (.ref a0), some (.int x1), some (.int x2), some (.int x3), none]) (st' := [.long w.toInt64]) (by decide +kernel) rfl rfl ?_
        exact Go.lret rfl (by decide) (by decide) (by decide +kernel)
      | long w => exact no_none e
      | float w => exact no_none e
      | double w => exact no_none e
      | null => exact no_none e
      | ref w => exact no_none e
      | retAddr w => exact no_none e
  | inr E =>
    unfold wrapL at e
    dsimp only at e
    rcases Decidable.em ((([("java/lang/IndexOutOfBoundsException", xIX)] : List (String × Int64))[0]?).map (fun q => q.1) = some E) with z0 | z0
    · replace e := ite_t z0 e
      obtain rfl : "java/lang/IndexOutOfBoundsException" = E := Option.some.inj z0
      obtain rfl := Option.some.inj e
      refine Go.caught (M2 := mr m_F_place (.inr "java/lang/IndexOutOfBoundsException")) (a := a0) (as := [.int x1, .int x2, .int x3]) (rest := []) (h1 := h1) (j := 4) (len := 2) hct (WV.mr wv_Q_place) k0 kc_7 (by decide +kernel) rfl rfl ⟨⟨Nat.le_of_ble_eq_true rfl, Nat.le_of_ble_eq_true rfl⟩, ⟨Nat.le_of_ble_eq_true rfl, Nat.le_of_ble_eq_true rfl⟩⟩ (Nat.le_of_ble_eq_true rfl) (by decide) [] ⟨0, 8, 9, 34⟩ [] rfl (fun z hz => nomatch hz) (by decide) (by decide) cl_IndexOutOfBoundsException ca_IndexOutOfBoundsException (Or.inl ⟨by decide +kernel, rfl⟩) rfl ?_
      show Go l D ad aC _ _ m_Q_place 11 [some (.ref a0), some (.int x1), some (.int x2), some (.int x3), none] [] h1 1 6
      refine Go.ldc2 lx_Q_36 (by decide +kernel) ?_
      exact Go.lret rfl (by decide) (by decide) (by decide +kernel)
    replace e := ite_f z0 e
    replace e := ite_f (show ¬ ((([("java/lang/IndexOutOfBoundsException", xIX)] : List (String × Int64))[1]?).map (fun q => q.1) = some E) by simp) e
    exact no_none e
def m_Q_leave : MI := (⟨"FairWallsLaw", "leave", "(LFairWalls;I)J"⟩, method_17_code, 3, (some .long), 9, 1, [(0, 6, 7, 34), (0, 6, 12, 19)])
theorem cw_Q_leave : codeW m_Q_leave ∈ GT := gtb 879 (by decide +kernel) (by decide +kernel)
theorem sw_Q_leave : Cond.static m_Q_leave.y ∈ GT := gtb 878 (by decide +kernel) (by decide +kernel)
theorem wv_Q_leave : WV "FairWallsLaw" 66 m_F_leave 1 := ⟨⟨gtb 880 (by decide +kernel) (by decide +kernel), iw_F_leave, cw_F_leave, rfl, by decide +kernel, by decide +kernel⟩, nw_F_leave, vw_F_leave⟩
def f_Q_leave (h : HP) (a0 : Nat) (x1 : Int32) : Option (Int64 × HP) := (f_F_leave h a0 x1).bind (wrapL [("java/lang/IndexOutOfBoundsException", xIX), ("java/lang/IllegalStateException", xST)])
set_option maxHeartbeats 1000000 in
theorem x_Q_leave {l : Launch} {D : va_G} {ad : Nat → Nat} {aC : Nat → ClassId} (hf : l.flags = flags0) (hI : Inj ad) {h : HP} {a0 : Nat} {x1 : Int32} {r : Int64 × HP} (k0 : knd a0 = 7) (e : f_Q_leave h a0 x1 = some r) : CT l D ad aC m_Q_leave [.ref a0, .int x1] h (.inl (some (.long r.1))) r.2 := by
  refine CT.ofGoH (by decide +kernel) rfl (Nat.le_of_ble_eq_true rfl) ?_
  unfold f_Q_leave at e
  show Go l D ad aC (rmk m_Q_leave) _ m_Q_leave 0 [some (.ref a0), some (.int x1), none] [] h 0 0
  obtain ⟨⟨res, h1⟩, hr, e⟩ := bd_inv e
  have hct := x_F_leave (l := l) (D := D) (ad := ad) (aC := aC) hf hI k0 hr
  refine Go.run (pc' := 2) [.aload_n 0, .iload_n 1] (ls' := [some (.ref a0), some (.int x1), none]) (st' := [.int x1, .ref a0]) (by decide +kernel) rfl rfl ?_
  cases res with
  | inl v =>
    cases v with
    | none => exact no_none e
    | some w =>
      cases w with
      | int w =>
        obtain rfl := Option.some.inj e
        refine Go.callV (M2 := mr m_F_leave (.inl (some (.int w)))) (a := a0) (as := [.int x1]) (rest := []) (h1 := h1) (v := some (.int w)) hct (WV.mr wv_Q_leave) k0 kc_7 (by decide +kernel) rfl rfl ⟨⟨Nat.le_of_ble_eq_true rfl, Nat.le_of_ble_eq_true rfl⟩, ⟨Nat.zero_le _, Nat.zero_le _⟩⟩ (Nat.le_of_ble_eq_true rfl) ?_
        show Go l D ad aC _ _ m_Q_leave 5 [some (.ref a0), some (.int x1), none] [.int w] h1 0 0
        refine Go.run (pc' := 6) [.i2l] (ls' := [some (.ref a0), some (.int x1), none]) (st' := [.long w.toInt64]) (by decide +kernel) rfl rfl ?_
        exact Go.lret rfl (by decide) (by decide) (by decide +kernel)
      | long w => exact no_none e
      | float w => exact no_none e
      | double w => exact no_none e
      | null => exact no_none e
      | ref w => exact no_none e
      | retAddr w => exact no_none e
  | inr E =>
    unfold wrapL at e
    dsimp only at e
    rcases Decidable.em ((([("java/lang/IndexOutOfBoundsException", xIX), ("java/lang/IllegalStateException", xST)] : List (String × Int64))[0]?).map (fun q => q.1) = some E) with z0 | z0
    · replace e := ite_t z0 e
      obtain rfl : "java/lang/IndexOutOfBoundsException" = E := Option.some.inj z0
      obtain rfl := Option.some.inj e
      refine Go.caught (M2 := mr m_F_leave (.inr "java/lang/IndexOutOfBoundsException")) (a := a0) (as := [.int x1]) (rest := []) (h1 := h1) (j := 2) (len := 1) hct (WV.mr wv_Q_leave) k0 kc_7 (by decide +kernel) rfl rfl ⟨⟨Nat.le_of_ble_eq_true rfl, Nat.le_of_ble_eq_true rfl⟩, ⟨Nat.le_of_ble_eq_true rfl, Nat.le_of_ble_eq_true rfl⟩⟩ (Nat.le_of_ble_eq_true rfl) (by decide) [] ⟨0, 6, 7, 34⟩ [⟨0, 6, 12, 19⟩] rfl (fun z hz => nomatch hz) (by decide) (by decide) cl_IndexOutOfBoundsException ca_IndexOutOfBoundsException (Or.inr ⟨2, by decide +kernel, rfl, rfl⟩) rfl ?_
      show Go l D ad aC _ _ m_Q_leave 8 [some (.ref a0), some (.int x1), none] [] h1 1 6
      refine Go.ldc2 lx_Q_36 (by decide +kernel) ?_
      exact Go.lret rfl (by decide) (by decide) (by decide +kernel)
    replace e := ite_f z0 e
    rcases Decidable.em ((([("java/lang/IndexOutOfBoundsException", xIX), ("java/lang/IllegalStateException", xST)] : List (String × Int64))[1]?).map (fun q => q.1) = some E) with z1 | z1
    · replace e := ite_t z1 e
      obtain rfl : "java/lang/IllegalStateException" = E := Option.some.inj z1
      obtain rfl := Option.some.inj e
      refine Go.caught (M2 := mr m_F_leave (.inr "java/lang/IllegalStateException")) (a := a0) (as := [.int x1]) (rest := []) (h1 := h1) (j := 2) (len := 1) hct (WV.mr wv_Q_leave) k0 kc_7 (by decide +kernel) rfl rfl ⟨⟨Nat.le_of_ble_eq_true rfl, Nat.le_of_ble_eq_true rfl⟩, ⟨Nat.le_of_ble_eq_true rfl, Nat.le_of_ble_eq_true rfl⟩⟩ (Nat.le_of_ble_eq_true rfl) (by decide) [⟨0, 6, 7, 34⟩] ⟨0, 6, 12, 19⟩ [] rfl (fun z hz => by have e0 := List.mem_singleton.mp hz; subst e0; exact Or.inr ⟨by decide, "java/lang/IndexOutOfBoundsException", cl_IndexOutOfBoundsException, by decide⟩) (by decide) (by decide) cl_IllegalStateException ca_IllegalStateException (Or.inr ⟨2, by decide +kernel, rfl, rfl⟩) rfl ?_
      show Go l D ad aC _ _ m_Q_leave 13 [some (.ref a0), some (.int x1), none] [] h1 1 6
      refine Go.ldc2 lx_Q_21 (by decide +kernel) ?_
      exact Go.lret rfl (by decide) (by decide) (by decide +kernel)
    replace e := ite_f z1 e
    exact no_none e
def m_Q_swap : MI := (⟨"FairWallsLaw", "swap", "(LFairWalls;II)J"⟩, method_18_code, 4, (some .long), 9, 1, [(0, 7, 8, 34), (0, 7, 13, 15)])
theorem cw_Q_swap : codeW m_Q_swap ∈ GT := gtb 888 (by decide +kernel) (by decide +kernel)
theorem sw_Q_swap : Cond.static m_Q_swap.y ∈ GT := gtb 887 (by decide +kernel) (by decide +kernel)
theorem wv_Q_swap : WV "FairWallsLaw" 69 m_F_swap 2 := ⟨⟨gtb 889 (by decide +kernel) (by decide +kernel), iw_F_swap, cw_F_swap, rfl, by decide +kernel, by decide +kernel⟩, nw_F_swap, vw_F_swap⟩
def f_Q_swap (h : HP) (a0 : Nat) (x1 : Int32) (x2 : Int32) : Option (Int64 × HP) := (f_F_swap h a0 x1 x2).bind (wrapL [("java/lang/IndexOutOfBoundsException", xIX), ("java/lang/IllegalArgumentException", xAR)])
set_option maxHeartbeats 1000000 in
theorem x_Q_swap {l : Launch} {D : va_G} {ad : Nat → Nat} {aC : Nat → ClassId} (hf : l.flags = flags0) (hI : Inj ad) {h : HP} {a0 : Nat} {x1 : Int32} {x2 : Int32} {r : Int64 × HP} (k0 : knd a0 = 7) (e : f_Q_swap h a0 x1 x2 = some r) : CT l D ad aC m_Q_swap [.ref a0, .int x1, .int x2] h (.inl (some (.long r.1))) r.2 := by
  refine CT.ofGoH (by decide +kernel) rfl (Nat.le_of_ble_eq_true rfl) ?_
  unfold f_Q_swap at e
  show Go l D ad aC (rmk m_Q_swap) _ m_Q_swap 0 [some (.ref a0), some (.int x1), some (.int x2), none] [] h 0 0
  obtain ⟨⟨res, h1⟩, hr, e⟩ := bd_inv e
  have hct := x_F_swap (l := l) (D := D) (ad := ad) (aC := aC) hf hI k0 hr
  refine Go.run (pc' := 3) [.aload_n 0, .iload_n 1, .iload_n 2] (ls' := [some (.ref a0), some (.int x1), some (.int x2), none]) (st' := [.int x2, .int x1, .ref a0]) (by decide +kernel) rfl rfl ?_
  cases res with
  | inl v =>
    cases v with
    | none => exact no_none e
    | some w =>
      cases w with
      | int w =>
        obtain rfl := Option.some.inj e
        refine Go.callV (M2 := mr m_F_swap (.inl (some (.int w)))) (a := a0) (as := [.int x1, .int x2]) (rest := []) (h1 := h1) (v := some (.int w)) hct (WV.mr wv_Q_swap) k0 kc_7 (by decide +kernel) rfl rfl ⟨⟨Nat.le_of_ble_eq_true rfl, Nat.le_of_ble_eq_true rfl⟩, ⟨Nat.zero_le _, Nat.zero_le _⟩⟩ (Nat.le_of_ble_eq_true rfl) ?_
        show Go l D ad aC _ _ m_Q_swap 6 [some (.ref a0), some (.int x1), some (.int x2), none] [.int w] h1 0 0
        refine Go.run (pc' := 7) [.i2l] (ls' := [some (.ref a0), some (.int x1), some (.int x2), none]) (st' := [.long w.toInt64]) (by decide +kernel) rfl rfl ?_
        exact Go.lret rfl (by decide) (by decide) (by decide +kernel)
      | long w => exact no_none e
      | float w => exact no_none e
      | double w => exact no_none e
      | null => exact no_none e
      | ref w => exact no_none e
      | retAddr w => exact no_none e
  | inr E =>
    unfold wrapL at e
    dsimp only at e
    rcases Decidable.em ((([("java/lang/IndexOutOfBoundsException", xIX), ("java/lang/IllegalArgumentException", xAR)] : List (String × Int64))[0]?).map (fun q => q.1) = some E) with z0 | z0
    · replace e := ite_t z0 e
      obtain rfl : "java/lang/IndexOutOfBoundsException" = E := Option.some.inj z0
      obtain rfl := Option.some.inj e
      refine Go.caught (M2 := mr m_F_swap (.inr "java/lang/IndexOutOfBoundsException")) (a := a0) (as := [.int x1, .int x2]) (rest := []) (h1 := h1) (j := 3) (len := 1) hct (WV.mr wv_Q_swap) k0 kc_7 (by decide +kernel) rfl rfl ⟨⟨Nat.le_of_ble_eq_true rfl, Nat.le_of_ble_eq_true rfl⟩, ⟨Nat.le_of_ble_eq_true rfl, Nat.le_of_ble_eq_true rfl⟩⟩ (Nat.le_of_ble_eq_true rfl) (by decide) [] ⟨0, 7, 8, 34⟩ [⟨0, 7, 13, 15⟩] rfl (fun z hz => nomatch hz) (by decide) (by decide) cl_IndexOutOfBoundsException ca_IndexOutOfBoundsException (Or.inr ⟨3, by decide +kernel, rfl, rfl⟩) rfl ?_
      show Go l D ad aC _ _ m_Q_swap 9 [some (.ref a0), some (.int x1), some (.int x2), none] [] h1 1 6
      refine Go.ldc2 lx_Q_36 (by decide +kernel) ?_
      exact Go.lret rfl (by decide) (by decide) (by decide +kernel)
    replace e := ite_f z0 e
    rcases Decidable.em ((([("java/lang/IndexOutOfBoundsException", xIX), ("java/lang/IllegalArgumentException", xAR)] : List (String × Int64))[1]?).map (fun q => q.1) = some E) with z1 | z1
    · replace e := ite_t z1 e
      obtain rfl : "java/lang/IllegalArgumentException" = E := Option.some.inj z1
      obtain rfl := Option.some.inj e
      refine Go.caught (M2 := mr m_F_swap (.inr "java/lang/IllegalArgumentException")) (a := a0) (as := [.int x1, .int x2]) (rest := []) (h1 := h1) (j := 3) (len := 1) hct (WV.mr wv_Q_swap) k0 kc_7 (by decide +kernel) rfl rfl ⟨⟨Nat.le_of_ble_eq_true rfl, Nat.le_of_ble_eq_true rfl⟩, ⟨Nat.le_of_ble_eq_true rfl, Nat.le_of_ble_eq_true rfl⟩⟩ (Nat.le_of_ble_eq_true rfl) (by decide) [⟨0, 7, 8, 34⟩] ⟨0, 7, 13, 15⟩ [] rfl (fun z hz => by have e0 := List.mem_singleton.mp hz; subst e0; exact Or.inr ⟨by decide, "java/lang/IndexOutOfBoundsException", cl_IndexOutOfBoundsException, by decide⟩) (by decide) (by decide) cl_IllegalArgumentException ca_IllegalArgumentException (Or.inr ⟨3, by decide +kernel, rfl, rfl⟩) rfl ?_
      show Go l D ad aC _ _ m_Q_swap 14 [some (.ref a0), some (.int x1), some (.int x2), none] [] h1 1 6
      refine Go.ldc2 lx_Q_17 (by decide +kernel) ?_
      exact Go.lret rfl (by decide) (by decide) (by decide +kernel)
    replace e := ite_f z1 e
    exact no_none e
def m_Q_days : MI := (⟨"FairWallsLaw", "days", "(LFairWalls;I)J"⟩, method_19_code, 3, (some .long), 9, 1, [(0, 6, 7, 15)])
theorem cw_Q_days : codeW m_Q_days ∈ GT := gtb 896 (by decide +kernel) (by decide +kernel)
theorem sw_Q_days : Cond.static m_Q_days.y ∈ GT := gtb 895 (by decide +kernel) (by decide +kernel)
theorem wv_Q_days : WV "FairWallsLaw" 72 m_F_days 1 := ⟨⟨gtb 897 (by decide +kernel) (by decide +kernel), iw_F_days, cw_F_days, rfl, by decide +kernel, by decide +kernel⟩, nw_F_days, vw_F_days⟩
def f_Q_days (h : HP) (a0 : Nat) (x1 : Int32) : Option (Int64 × HP) := (f_F_days h a0 x1).bind (wrapL [("java/lang/IllegalArgumentException", xAR)])
set_option maxHeartbeats 1000000 in
theorem x_Q_days {l : Launch} {D : va_G} {ad : Nat → Nat} {aC : Nat → ClassId} (hf : l.flags = flags0) (hI : Inj ad) {h : HP} {a0 : Nat} {x1 : Int32} {r : Int64 × HP} (k0 : knd a0 = 7) (e : f_Q_days h a0 x1 = some r) : CT l D ad aC m_Q_days [.ref a0, .int x1] h (.inl (some (.long r.1))) r.2 := by
  refine CT.ofGoH (by decide +kernel) rfl (Nat.le_of_ble_eq_true rfl) ?_
  unfold f_Q_days at e
  show Go l D ad aC (rmk m_Q_days) _ m_Q_days 0 [some (.ref a0), some (.int x1), none] [] h 0 0
  obtain ⟨⟨res, h1⟩, hr, e⟩ := bd_inv e
  have hct := x_F_days (l := l) (D := D) (ad := ad) (aC := aC) hf hI k0 hr
  refine Go.run (pc' := 2) [.aload_n 0, .iload_n 1] (ls' := [some (.ref a0), some (.int x1), none]) (st' := [.int x1, .ref a0]) (by decide +kernel) rfl rfl ?_
  cases res with
  | inl v =>
    cases v with
    | none => exact no_none e
    | some w =>
      cases w with
      | int w =>
        obtain rfl := Option.some.inj e
        refine Go.callV (M2 := mr m_F_days (.inl (some (.int w)))) (a := a0) (as := [.int x1]) (rest := []) (h1 := h1) (v := some (.int w)) hct (WV.mr wv_Q_days) k0 kc_7 (by decide +kernel) rfl rfl ⟨⟨Nat.le_of_ble_eq_true rfl, Nat.le_of_ble_eq_true rfl⟩, ⟨Nat.zero_le _, Nat.zero_le _⟩⟩ (Nat.le_of_ble_eq_true rfl) ?_
        show Go l D ad aC _ _ m_Q_days 5 [some (.ref a0), some (.int x1), none] [.int w] h1 0 0
        refine Go.run (pc' := 6) [.i2l] (ls' := [some (.ref a0), some (.int x1), none]) (st' := [.long w.toInt64]) (by decide +kernel) rfl rfl ?_
        exact Go.lret rfl (by decide) (by decide) (by decide +kernel)
      | long w => exact no_none e
      | float w => exact no_none e
      | double w => exact no_none e
      | null => exact no_none e
      | ref w => exact no_none e
      | retAddr w => exact no_none e
  | inr E =>
    unfold wrapL at e
    dsimp only at e
    rcases Decidable.em ((([("java/lang/IllegalArgumentException", xAR)] : List (String × Int64))[0]?).map (fun q => q.1) = some E) with z0 | z0
    · replace e := ite_t z0 e
      obtain rfl : "java/lang/IllegalArgumentException" = E := Option.some.inj z0
      obtain rfl := Option.some.inj e
      refine Go.caught (M2 := mr m_F_days (.inr "java/lang/IllegalArgumentException")) (a := a0) (as := [.int x1]) (rest := []) (h1 := h1) (j := 2) (len := 1) hct (WV.mr wv_Q_days) k0 kc_7 (by decide +kernel) rfl rfl ⟨⟨Nat.le_of_ble_eq_true rfl, Nat.le_of_ble_eq_true rfl⟩, ⟨Nat.le_of_ble_eq_true rfl, Nat.le_of_ble_eq_true rfl⟩⟩ (Nat.le_of_ble_eq_true rfl) (by decide) [] ⟨0, 6, 7, 15⟩ [] rfl (fun z hz => nomatch hz) (by decide) (by decide) cl_IllegalArgumentException ca_IllegalArgumentException (Or.inr ⟨2, by decide +kernel, rfl, rfl⟩) rfl ?_
      show Go l D ad aC _ _ m_Q_days 8 [some (.ref a0), some (.int x1), none] [] h1 1 6
      refine Go.ldc2 lx_Q_17 (by decide +kernel) ?_
      exact Go.lret rfl (by decide) (by decide) (by decide +kernel)
    replace e := ite_f z0 e
    replace e := ite_f (show ¬ ((([("java/lang/IllegalArgumentException", xAR)] : List (String × Int64))[1]?).map (fun q => q.1) = some E) by simp) e
    exact no_none e
def m_Q_set : MI := (⟨"FairWallsLaw", "set", "(LFairWalls;II)J"⟩, method_20_code, 4, (some .long), 9, 1, [(0, 7, 8, 15)])
theorem cw_Q_set : codeW m_Q_set ∈ GT := gtb 904 (by decide +kernel) (by decide +kernel)
theorem sw_Q_set : Cond.static m_Q_set.y ∈ GT := gtb 903 (by decide +kernel) (by decide +kernel)
theorem wv_Q_set : WV "FairWallsLaw" 75 m_F_set 2 := ⟨⟨gtb 905 (by decide +kernel) (by decide +kernel), iw_F_set, cw_F_set, rfl, by decide +kernel, by decide +kernel⟩, nw_F_set, vw_F_set⟩
def f_Q_set (h : HP) (a0 : Nat) (x1 : Int32) (x2 : Int32) : Option (Int64 × HP) := (f_F_set h a0 x1 x2).bind (wrapL [("java/lang/IllegalArgumentException", xAR)])
set_option maxHeartbeats 1000000 in
theorem x_Q_set {l : Launch} {D : va_G} {ad : Nat → Nat} {aC : Nat → ClassId} (hf : l.flags = flags0) (hI : Inj ad) {h : HP} {a0 : Nat} {x1 : Int32} {x2 : Int32} {r : Int64 × HP} (k0 : knd a0 = 7) (e : f_Q_set h a0 x1 x2 = some r) : CT l D ad aC m_Q_set [.ref a0, .int x1, .int x2] h (.inl (some (.long r.1))) r.2 := by
  refine CT.ofGoH (by decide +kernel) rfl (Nat.le_of_ble_eq_true rfl) ?_
  unfold f_Q_set at e
  show Go l D ad aC (rmk m_Q_set) _ m_Q_set 0 [some (.ref a0), some (.int x1), some (.int x2), none] [] h 0 0
  obtain ⟨⟨res, h1⟩, hr, e⟩ := bd_inv e
  have hct := x_F_set (l := l) (D := D) (ad := ad) (aC := aC) hf hI k0 hr
  refine Go.run (pc' := 3) [.aload_n 0, .iload_n 1, .iload_n 2] (ls' := [some (.ref a0), some (.int x1), some (.int x2), none]) (st' := [.int x2, .int x1, .ref a0]) (by decide +kernel) rfl rfl ?_
  cases res with
  | inl v =>
    cases v with
    | none => exact no_none e
    | some w =>
      cases w with
      | int w =>
        obtain rfl := Option.some.inj e
        refine Go.callV (M2 := mr m_F_set (.inl (some (.int w)))) (a := a0) (as := [.int x1, .int x2]) (rest := []) (h1 := h1) (v := some (.int w)) hct (WV.mr wv_Q_set) k0 kc_7 (by decide +kernel) rfl rfl ⟨⟨Nat.le_of_ble_eq_true rfl, Nat.le_of_ble_eq_true rfl⟩, ⟨Nat.zero_le _, Nat.zero_le _⟩⟩ (Nat.le_of_ble_eq_true rfl) ?_
        show Go l D ad aC _ _ m_Q_set 6 [some (.ref a0), some (.int x1), some (.int x2), none] [.int w] h1 0 0
        refine Go.run (pc' := 7) [.i2l] (ls' := [some (.ref a0), some (.int x1), some (.int x2), none]) (st' := [.long w.toInt64]) (by decide +kernel) rfl rfl ?_
        exact Go.lret rfl (by decide) (by decide) (by decide +kernel)
      | long w => exact no_none e
      | float w => exact no_none e
      | double w => exact no_none e
      | null => exact no_none e
      | ref w => exact no_none e
      | retAddr w => exact no_none e
  | inr E =>
    unfold wrapL at e
    dsimp only at e
    rcases Decidable.em ((([("java/lang/IllegalArgumentException", xAR)] : List (String × Int64))[0]?).map (fun q => q.1) = some E) with z0 | z0
    · replace e := ite_t z0 e
      obtain rfl : "java/lang/IllegalArgumentException" = E := Option.some.inj z0
      obtain rfl := Option.some.inj e
      refine Go.caught (M2 := mr m_F_set (.inr "java/lang/IllegalArgumentException")) (a := a0) (as := [.int x1, .int x2]) (rest := []) (h1 := h1) (j := 3) (len := 1) hct (WV.mr wv_Q_set) k0 kc_7 (by decide +kernel) rfl rfl ⟨⟨Nat.le_of_ble_eq_true rfl, Nat.le_of_ble_eq_true rfl⟩, ⟨Nat.le_of_ble_eq_true rfl, Nat.le_of_ble_eq_true rfl⟩⟩ (Nat.le_of_ble_eq_true rfl) (by decide) [] ⟨0, 7, 8, 15⟩ [] rfl (fun z hz => nomatch hz) (by decide) (by decide) cl_IllegalArgumentException ca_IllegalArgumentException (Or.inr ⟨3, by decide +kernel, rfl, rfl⟩) rfl ?_
      show Go l D ad aC _ _ m_Q_set 9 [some (.ref a0), some (.int x1), some (.int x2), none] [] h1 1 6
      refine Go.ldc2 lx_Q_17 (by decide +kernel) ?_
      exact Go.lret rfl (by decide) (by decide) (by decide +kernel)
    replace e := ite_f z0 e
    replace e := ite_f (show ¬ ((([("java/lang/IllegalArgumentException", xAR)] : List (String × Int64))[1]?).map (fun q => q.1) = some E) by simp) e
    exact no_none e
def m_Q_undo : MI := (⟨"FairWallsLaw", "undo", "(LFairWalls;)J"⟩, method_21_code, 2, (some .long), 9, 1, [(0, 5, 6, 19)])
theorem cw_Q_undo : codeW m_Q_undo ∈ GT := gtb 1012 (by decide +kernel) (by decide +kernel)
theorem sw_Q_undo : Cond.static m_Q_undo.y ∈ GT := gtb 1011 (by decide +kernel) (by decide +kernel)
theorem wv_Q_undo : WV "FairWallsLaw" 78 m_F_undo 0 := ⟨⟨gtb 1013 (by decide +kernel) (by decide +kernel), iw_F_undo, cw_F_undo, rfl, by decide +kernel, by decide +kernel⟩, nw_F_undo, vw_F_undo⟩
def f_Q_undo (h : HP) (a0 : Nat) : Option (Int64 × HP) := (f_F_undo h a0).bind (wrapL [("java/lang/IllegalStateException", xST)])
set_option maxHeartbeats 1000000 in
theorem x_Q_undo {l : Launch} {D : va_G} {ad : Nat → Nat} {aC : Nat → ClassId} (hf : l.flags = flags0) (hI : Inj ad) {h : HP} {a0 : Nat} {r : Int64 × HP} (k0 : knd a0 = 7) (e : f_Q_undo h a0 = some r) : CT l D ad aC m_Q_undo [.ref a0] h (.inl (some (.long r.1))) r.2 := by
  refine CT.ofGoH (by decide +kernel) rfl (Nat.le_of_ble_eq_true rfl) ?_
  unfold f_Q_undo at e
  show Go l D ad aC (rmk m_Q_undo) _ m_Q_undo 0 [some (.ref a0), none] [] h 0 0
  obtain ⟨⟨res, h1⟩, hr, e⟩ := bd_inv e
  have hct := x_F_undo (l := l) (D := D) (ad := ad) (aC := aC) hf hI k0 hr
  refine Go.run (pc' := 1) [.aload_n 0] (ls' := [some (.ref a0), none]) (st' := [.ref a0]) (by decide +kernel) rfl rfl ?_
  cases res with
  | inl v =>
    cases v with
    | none => exact no_none e
    | some w =>
      cases w with
      | int w =>
        obtain rfl := Option.some.inj e
        refine Go.callV (M2 := mr m_F_undo (.inl (some (.int w)))) (a := a0) (as := []) (rest := []) (h1 := h1) (v := some (.int w)) hct (WV.mr wv_Q_undo) k0 kc_7 (by decide +kernel) rfl rfl ⟨⟨Nat.le_of_ble_eq_true rfl, Nat.le_of_ble_eq_true rfl⟩, ⟨Nat.zero_le _, Nat.zero_le _⟩⟩ (Nat.le_of_ble_eq_true rfl) ?_
        show Go l D ad aC _ _ m_Q_undo 4 [some (.ref a0), none] [.int w] h1 0 0
        refine Go.run (pc' := 5) [.i2l] (ls' := [some (.ref a0), none]) (st' := [.long w.toInt64]) (by decide +kernel) rfl rfl ?_
        exact Go.lret rfl (by decide) (by decide) (by decide +kernel)
      | long w => exact no_none e
      | float w => exact no_none e
      | double w => exact no_none e
      | null => exact no_none e
      | ref w => exact no_none e
      | retAddr w => exact no_none e
  | inr E =>
    unfold wrapL at e
    dsimp only at e
    rcases Decidable.em ((([("java/lang/IllegalStateException", xST)] : List (String × Int64))[0]?).map (fun q => q.1) = some E) with z0 | z0
    · replace e := ite_t z0 e
      obtain rfl : "java/lang/IllegalStateException" = E := Option.some.inj z0
      obtain rfl := Option.some.inj e
      refine Go.caught (M2 := mr m_F_undo (.inr "java/lang/IllegalStateException")) (a := a0) (as := []) (rest := []) (h1 := h1) (j := 1) (len := 1) hct (WV.mr wv_Q_undo) k0 kc_7 (by decide +kernel) rfl rfl ⟨⟨Nat.le_of_ble_eq_true rfl, Nat.le_of_ble_eq_true rfl⟩, ⟨Nat.le_of_ble_eq_true rfl, Nat.le_of_ble_eq_true rfl⟩⟩ (Nat.le_of_ble_eq_true rfl) (by decide) [] ⟨0, 5, 6, 19⟩ [] rfl (fun z hz => nomatch hz) (by decide) (by decide) cl_IllegalStateException ca_IllegalStateException (Or.inr ⟨1, by decide +kernel, rfl, rfl⟩) rfl ?_
      show Go l D ad aC _ _ m_Q_undo 7 [some (.ref a0), none] [] h1 1 6
      refine Go.ldc2 lx_Q_21 (by decide +kernel) ?_
      exact Go.lret rfl (by decide) (by decide) (by decide +kernel)
    replace e := ite_f z0 e
    replace e := ite_f (show ¬ ((([("java/lang/IllegalStateException", xST)] : List (String × Int64))[1]?).map (fun q => q.1) = some E) by simp) e
    exact no_none e
def m_Q_rentIf : MI := (⟨"FairWallsLaw", "rentIf", "(LFairWalls;III)J"⟩, method_22_code, 5, (some .long), 9, 1, [(0, 8, 9, 34)])
theorem cw_Q_rentIf : codeW m_Q_rentIf ∈ GT := gtb 913 (by decide +kernel) (by decide +kernel)
theorem sw_Q_rentIf : Cond.static m_Q_rentIf.y ∈ GT := gtb 912 (by decide +kernel) (by decide +kernel)
theorem wv_Q_rentIf : WV "FairWallsLaw" 81 m_F_rentIf 3 := ⟨⟨gtb 914 (by decide +kernel) (by decide +kernel), iw_F_rentIf, cw_F_rentIf, rfl, by decide +kernel, by decide +kernel⟩, nw_F_rentIf, vw_F_rentIf⟩
def f_Q_rentIf (h : HP) (a0 : Nat) (x1 : Int32) (x2 : Int32) (x3 : Int32) : Option (Int64 × HP) := (f_F_rentIf h a0 x1 x2 x3).bind (wrapL [("java/lang/IndexOutOfBoundsException", xIX)])
set_option maxHeartbeats 1000000 in
theorem x_Q_rentIf {l : Launch} {D : va_G} {ad : Nat → Nat} {aC : Nat → ClassId} (hf : l.flags = flags0) (hI : Inj ad) {h : HP} {a0 : Nat} {x1 : Int32} {x2 : Int32} {x3 : Int32} {r : Int64 × HP} (k0 : knd a0 = 7) (e : f_Q_rentIf h a0 x1 x2 x3 = some r) : CT l D ad aC m_Q_rentIf [.ref a0, .int x1, .int x2, .int x3] h (.inl (some (.long r.1))) r.2 := by
  refine CT.ofGoH (by decide +kernel) rfl (Nat.le_of_ble_eq_true rfl) ?_
  unfold f_Q_rentIf at e
  show Go l D ad aC (rmk m_Q_rentIf) _ m_Q_rentIf 0 [some (.ref a0), some (.int x1), some (.int x2), some (.int x3), none] [] h 0 0
  obtain ⟨⟨res, h1⟩, hr, e⟩ := bd_inv e
  have hct := x_F_rentIf (l := l) (D := D) (ad := ad) (aC := aC) hf hI k0 hr
  refine Go.run (pc' := 4) [.aload_n 0, .iload_n 1, .iload_n 2, .iload_n 3] (ls' := [some (.ref a0), some (.int x1), some (.int x2), some (.int x3), none]) (st' := [.int x3, .int x2, .int x1, .ref a0]) (by decide +kernel) rfl rfl ?_
  cases res with
  | inl v =>
    cases v with
    | none => exact no_none e
    | some w =>
      cases w with
      | int w =>
        obtain rfl := Option.some.inj e
        refine Go.callV (M2 := mr m_F_rentIf (.inl (some (.int w)))) (a := a0) (as := [.int x1, .int x2, .int x3]) (rest := []) (h1 := h1) (v := some (.int w)) hct (WV.mr wv_Q_rentIf) k0 kc_7 (by decide +kernel) rfl rfl ⟨⟨Nat.le_of_ble_eq_true rfl, Nat.le_of_ble_eq_true rfl⟩, ⟨Nat.zero_le _, Nat.zero_le _⟩⟩ (Nat.le_of_ble_eq_true rfl) ?_
        show Go l D ad aC _ _ m_Q_rentIf 7 [some (.ref a0), some (.int x1), some (.int x2), some (.int x3), none] [.int w] h1 0 0
        refine Go.run (pc' := 8) [.i2l] (ls' := [some (.ref a0), some (.int x1), some (.int x2), some (.int x3), none]) (st' := [.long w.toInt64]) (by decide +kernel) rfl rfl ?_
        exact Go.lret rfl (by decide) (by decide) (by decide +kernel)
      | long w => exact no_none e
      | float w => exact no_none e
      | double w => exact no_none e
      | null => exact no_none e
      | ref w => exact no_none e
      | retAddr w => exact no_none e
  | inr E =>
    unfold wrapL at e
    dsimp only at e
    rcases Decidable.em ((([("java/lang/IndexOutOfBoundsException", xIX)] : List (String × Int64))[0]?).map (fun q => q.1) = some E) with z0 | z0
    · replace e := ite_t z0 e
      obtain rfl : "java/lang/IndexOutOfBoundsException" = E := Option.some.inj z0
      obtain rfl := Option.some.inj e
      refine Go.caught (M2 := mr m_F_rentIf (.inr "java/lang/IndexOutOfBoundsException")) (a := a0) (as := [.int x1, .int x2, .int x3]) (rest := []) (h1 := h1) (j := 4) (len := 2) hct (WV.mr wv_Q_rentIf) k0 kc_7 (by decide +kernel) rfl rfl ⟨⟨Nat.le_of_ble_eq_true rfl, Nat.le_of_ble_eq_true rfl⟩, ⟨Nat.le_of_ble_eq_true rfl, Nat.le_of_ble_eq_true rfl⟩⟩ (Nat.le_of_ble_eq_true rfl) (by decide) [] ⟨0, 8, 9, 34⟩ [] rfl (fun z hz => nomatch hz) (by decide) (by decide) cl_IndexOutOfBoundsException ca_IndexOutOfBoundsException (Or.inl ⟨by decide +kernel, rfl⟩) rfl ?_
      show Go l D ad aC _ _ m_Q_rentIf 11 [some (.ref a0), some (.int x1), some (.int x2), some (.int x3), none] [] h1 1 6
      refine Go.ldc2 lx_Q_36 (by decide +kernel) ?_
      exact Go.lret rfl (by decide) (by decide) (by decide +kernel)
    replace e := ite_f z0 e
    replace e := ite_f (show ¬ ((([("java/lang/IndexOutOfBoundsException", xIX)] : List (String × Int64))[1]?).map (fun q => q.1) = some E) by simp) e
    exact no_none e
def m_Q_cheapest : MI := (⟨"FairWallsLaw", "cheapest", "(LFairWalls;II)J"⟩, method_23_code, 4, (some .long), 9, 1, [(0, 7, 8, 34), (0, 7, 13, 15)])
theorem cw_Q_cheapest : codeW m_Q_cheapest ∈ GT := gtb 926 (by decide +kernel) (by decide +kernel)
theorem sw_Q_cheapest : Cond.static m_Q_cheapest.y ∈ GT := gtb 925 (by decide +kernel) (by decide +kernel)
theorem wv_Q_cheapest : WV "FairWallsLaw" 84 m_F_cheapest 2 := ⟨⟨gtb 927 (by decide +kernel) (by decide +kernel), iw_F_cheapest, cw_F_cheapest, rfl, by decide +kernel, by decide +kernel⟩, nw_F_cheapest, vw_F_cheapest⟩
def f_Q_cheapest (h : HP) (a0 : Nat) (x1 : Int32) (x2 : Int32) : Option (Int64 × HP) := (f_F_cheapest h a0 x1 x2).bind (wrapL [("java/lang/IndexOutOfBoundsException", xIX), ("java/lang/IllegalArgumentException", xAR)])
set_option maxHeartbeats 1000000 in
theorem x_Q_cheapest {l : Launch} {D : va_G} {ad : Nat → Nat} {aC : Nat → ClassId} (hf : l.flags = flags0) (hI : Inj ad) {h : HP} {a0 : Nat} {x1 : Int32} {x2 : Int32} {r : Int64 × HP} (k0 : knd a0 = 7) (e : f_Q_cheapest h a0 x1 x2 = some r) : CT l D ad aC m_Q_cheapest [.ref a0, .int x1, .int x2] h (.inl (some (.long r.1))) r.2 := by
  refine CT.ofGoH (by decide +kernel) rfl (Nat.le_of_ble_eq_true rfl) ?_
  unfold f_Q_cheapest at e
  show Go l D ad aC (rmk m_Q_cheapest) _ m_Q_cheapest 0 [some (.ref a0), some (.int x1), some (.int x2), none] [] h 0 0
  obtain ⟨⟨res, h1⟩, hr, e⟩ := bd_inv e
  have hct := x_F_cheapest (l := l) (D := D) (ad := ad) (aC := aC) hf hI k0 hr
  refine Go.run (pc' := 3) [.aload_n 0, .iload_n 1, .iload_n 2] (ls' := [some (.ref a0), some (.int x1), some (.int x2), none]) (st' := [.int x2, .int x1, .ref a0]) (by decide +kernel) rfl rfl ?_
  cases res with
  | inl v =>
    cases v with
    | none => exact no_none e
    | some w =>
      cases w with
      | int w =>
        obtain rfl := Option.some.inj e
        refine Go.callV (M2 := mr m_F_cheapest (.inl (some (.int w)))) (a := a0) (as := [.int x1, .int x2]) (rest := []) (h1 := h1) (v := some (.int w)) hct (WV.mr wv_Q_cheapest) k0 kc_7 (by decide +kernel) rfl rfl ⟨⟨Nat.le_of_ble_eq_true rfl, Nat.le_of_ble_eq_true rfl⟩, ⟨Nat.zero_le _, Nat.zero_le _⟩⟩ (Nat.le_of_ble_eq_true rfl) ?_
        show Go l D ad aC _ _ m_Q_cheapest 6 [some (.ref a0), some (.int x1), some (.int x2), none] [.int w] h1 0 0
        refine Go.run (pc' := 7) [.i2l] (ls' := [some (.ref a0), some (.int x1), some (.int x2), none]) (st' := [.long w.toInt64]) (by decide +kernel) rfl rfl ?_
        exact Go.lret rfl (by decide) (by decide) (by decide +kernel)
      | long w => exact no_none e
      | float w => exact no_none e
      | double w => exact no_none e
      | null => exact no_none e
      | ref w => exact no_none e
      | retAddr w => exact no_none e
  | inr E =>
    unfold wrapL at e
    dsimp only at e
    rcases Decidable.em ((([("java/lang/IndexOutOfBoundsException", xIX), ("java/lang/IllegalArgumentException", xAR)] : List (String × Int64))[0]?).map (fun q => q.1) = some E) with z0 | z0
    · replace e := ite_t z0 e
      obtain rfl : "java/lang/IndexOutOfBoundsException" = E := Option.some.inj z0
      obtain rfl := Option.some.inj e
      refine Go.caught (M2 := mr m_F_cheapest (.inr "java/lang/IndexOutOfBoundsException")) (a := a0) (as := [.int x1, .int x2]) (rest := []) (h1 := h1) (j := 3) (len := 1) hct (WV.mr wv_Q_cheapest) k0 kc_7 (by decide +kernel) rfl rfl ⟨⟨Nat.le_of_ble_eq_true rfl, Nat.le_of_ble_eq_true rfl⟩, ⟨Nat.le_of_ble_eq_true rfl, Nat.le_of_ble_eq_true rfl⟩⟩ (Nat.le_of_ble_eq_true rfl) (by decide) [] ⟨0, 7, 8, 34⟩ [⟨0, 7, 13, 15⟩] rfl (fun z hz => nomatch hz) (by decide) (by decide) cl_IndexOutOfBoundsException ca_IndexOutOfBoundsException (Or.inr ⟨3, by decide +kernel, rfl, rfl⟩) rfl ?_
      show Go l D ad aC _ _ m_Q_cheapest 9 [some (.ref a0), some (.int x1), some (.int x2), none] [] h1 1 6
      refine Go.ldc2 lx_Q_36 (by decide +kernel) ?_
      exact Go.lret rfl (by decide) (by decide) (by decide +kernel)
    replace e := ite_f z0 e
    rcases Decidable.em ((([("java/lang/IndexOutOfBoundsException", xIX), ("java/lang/IllegalArgumentException", xAR)] : List (String × Int64))[1]?).map (fun q => q.1) = some E) with z1 | z1
    · replace e := ite_t z1 e
      obtain rfl : "java/lang/IllegalArgumentException" = E := Option.some.inj z1
      obtain rfl := Option.some.inj e
      refine Go.caught (M2 := mr m_F_cheapest (.inr "java/lang/IllegalArgumentException")) (a := a0) (as := [.int x1, .int x2]) (rest := []) (h1 := h1) (j := 3) (len := 1) hct (WV.mr wv_Q_cheapest) k0 kc_7 (by decide +kernel) rfl rfl ⟨⟨Nat.le_of_ble_eq_true rfl, Nat.le_of_ble_eq_true rfl⟩, ⟨Nat.le_of_ble_eq_true rfl, Nat.le_of_ble_eq_true rfl⟩⟩ (Nat.le_of_ble_eq_true rfl) (by decide) [⟨0, 7, 8, 34⟩] ⟨0, 7, 13, 15⟩ [] rfl (fun z hz => by have e0 := List.mem_singleton.mp hz; subst e0; exact Or.inr ⟨by decide, "java/lang/IndexOutOfBoundsException", cl_IndexOutOfBoundsException, by decide⟩) (by decide) (by decide) cl_IllegalArgumentException ca_IllegalArgumentException (Or.inr ⟨3, by decide +kernel, rfl, rfl⟩) rfl ?_
      show Go l D ad aC _ _ m_Q_cheapest 14 [some (.ref a0), some (.int x1), some (.int x2), none] [] h1 1 6
      refine Go.ldc2 lx_Q_17 (by decide +kernel) ?_
      exact Go.lret rfl (by decide) (by decide) (by decide +kernel)
    replace e := ite_f z1 e
    exact no_none e
def m_Q_bestSwap : MI := (⟨"FairWallsLaw", "bestSwap", "(LFairWalls;I)J"⟩, method_24_code, 3, (some .long), 9, 1, [(0, 6, 7, 15)])
theorem cw_Q_bestSwap : codeW m_Q_bestSwap ∈ GT := gtb 933 (by decide +kernel) (by decide +kernel)
theorem sw_Q_bestSwap : Cond.static m_Q_bestSwap.y ∈ GT := gtb 932 (by decide +kernel) (by decide +kernel)
theorem wv_Q_bestSwap : WV "FairWallsLaw" 87 m_F_bestSwap 1 := ⟨⟨gtb 934 (by decide +kernel) (by decide +kernel), iw_F_bestSwap, cw_F_bestSwap, rfl, by decide +kernel, by decide +kernel⟩, nw_F_bestSwap, vw_F_bestSwap⟩
def f_Q_bestSwap (h : HP) (a0 : Nat) (x1 : Int32) : Option (Int64 × HP) := (f_F_bestSwap h a0 x1).bind (wrapL [("java/lang/IllegalArgumentException", xAR)])
set_option maxHeartbeats 1000000 in
theorem x_Q_bestSwap {l : Launch} {D : va_G} {ad : Nat → Nat} {aC : Nat → ClassId} (hf : l.flags = flags0) (hI : Inj ad) {h : HP} {a0 : Nat} {x1 : Int32} {r : Int64 × HP} (k0 : knd a0 = 7) (e : f_Q_bestSwap h a0 x1 = some r) : CT l D ad aC m_Q_bestSwap [.ref a0, .int x1] h (.inl (some (.long r.1))) r.2 := by
  refine CT.ofGoH (by decide +kernel) rfl (Nat.le_of_ble_eq_true rfl) ?_
  unfold f_Q_bestSwap at e
  show Go l D ad aC (rmk m_Q_bestSwap) _ m_Q_bestSwap 0 [some (.ref a0), some (.int x1), none] [] h 0 0
  obtain ⟨⟨res, h1⟩, hr, e⟩ := bd_inv e
  have hct := x_F_bestSwap (l := l) (D := D) (ad := ad) (aC := aC) hf hI k0 hr
  refine Go.run (pc' := 2) [.aload_n 0, .iload_n 1] (ls' := [some (.ref a0), some (.int x1), none]) (st' := [.int x1, .ref a0]) (by decide +kernel) rfl rfl ?_
  cases res with
  | inl v =>
    cases v with
    | none => exact no_none e
    | some w =>
      cases w with
      | int w =>
        obtain rfl := Option.some.inj e
        refine Go.callV (M2 := mr m_F_bestSwap (.inl (some (.int w)))) (a := a0) (as := [.int x1]) (rest := []) (h1 := h1) (v := some (.int w)) hct (WV.mr wv_Q_bestSwap) k0 kc_7 (by decide +kernel) rfl rfl ⟨⟨Nat.le_of_ble_eq_true rfl, Nat.le_of_ble_eq_true rfl⟩, ⟨Nat.zero_le _, Nat.zero_le _⟩⟩ (Nat.le_of_ble_eq_true rfl) ?_
        show Go l D ad aC _ _ m_Q_bestSwap 5 [some (.ref a0), some (.int x1), none] [.int w] h1 0 0
        refine Go.run (pc' := 6) [.i2l] (ls' := [some (.ref a0), some (.int x1), none]) (st' := [.long w.toInt64]) (by decide +kernel) rfl rfl ?_
        exact Go.lret rfl (by decide) (by decide) (by decide +kernel)
      | long w => exact no_none e
      | float w => exact no_none e
      | double w => exact no_none e
      | null => exact no_none e
      | ref w => exact no_none e
      | retAddr w => exact no_none e
  | inr E =>
    unfold wrapL at e
    dsimp only at e
    rcases Decidable.em ((([("java/lang/IllegalArgumentException", xAR)] : List (String × Int64))[0]?).map (fun q => q.1) = some E) with z0 | z0
    · replace e := ite_t z0 e
      obtain rfl : "java/lang/IllegalArgumentException" = E := Option.some.inj z0
      obtain rfl := Option.some.inj e
      refine Go.caught (M2 := mr m_F_bestSwap (.inr "java/lang/IllegalArgumentException")) (a := a0) (as := [.int x1]) (rest := []) (h1 := h1) (j := 2) (len := 1) hct (WV.mr wv_Q_bestSwap) k0 kc_7 (by decide +kernel) rfl rfl ⟨⟨Nat.le_of_ble_eq_true rfl, Nat.le_of_ble_eq_true rfl⟩, ⟨Nat.le_of_ble_eq_true rfl, Nat.le_of_ble_eq_true rfl⟩⟩ (Nat.le_of_ble_eq_true rfl) (by decide) [] ⟨0, 6, 7, 15⟩ [] rfl (fun z hz => nomatch hz) (by decide) (by decide) cl_IllegalArgumentException ca_IllegalArgumentException (Or.inr ⟨2, by decide +kernel, rfl, rfl⟩) rfl ?_
      show Go l D ad aC _ _ m_Q_bestSwap 8 [some (.ref a0), some (.int x1), none] [] h1 1 6
      refine Go.ldc2 lx_Q_17 (by decide +kernel) ?_
      exact Go.lret rfl (by decide) (by decide) (by decide +kernel)
    replace e := ite_f z0 e
    replace e := ite_f (show ¬ ((([("java/lang/IllegalArgumentException", xAR)] : List (String × Int64))[1]?).map (fun q => q.1) = some E) by simp) e
    exact no_none e
def m_Q_why : MI := (⟨"FairWallsLaw", "why", "(LFairWalls;II)J"⟩, method_25_code, 4, (some .long), 9, 1, [(0, 7, 8, 34), (0, 7, 13, 15)])
theorem cw_Q_why : codeW m_Q_why ∈ GT := gtb 945 (by decide +kernel) (by decide +kernel)
theorem sw_Q_why : Cond.static m_Q_why.y ∈ GT := gtb 944 (by decide +kernel) (by decide +kernel)
theorem wv_Q_why : WV "FairWallsLaw" 90 m_F_why 2 := ⟨⟨gtb 946 (by decide +kernel) (by decide +kernel), iw_F_why, cw_F_why, rfl, by decide +kernel, by decide +kernel⟩, nw_F_why, vw_F_why⟩
def f_Q_why (h : HP) (a0 : Nat) (x1 : Int32) (x2 : Int32) : Option (Int64 × HP) := (f_F_why h a0 x1 x2).bind (wrapL [("java/lang/IndexOutOfBoundsException", xIX), ("java/lang/IllegalArgumentException", xAR)])
set_option maxHeartbeats 1000000 in
theorem x_Q_why {l : Launch} {D : va_G} {ad : Nat → Nat} {aC : Nat → ClassId} (hf : l.flags = flags0) (hI : Inj ad) {h : HP} {a0 : Nat} {x1 : Int32} {x2 : Int32} {r : Int64 × HP} (k0 : knd a0 = 7) (e : f_Q_why h a0 x1 x2 = some r) : CT l D ad aC m_Q_why [.ref a0, .int x1, .int x2] h (.inl (some (.long r.1))) r.2 := by
  refine CT.ofGoH (by decide +kernel) rfl (Nat.le_of_ble_eq_true rfl) ?_
  unfold f_Q_why at e
  show Go l D ad aC (rmk m_Q_why) _ m_Q_why 0 [some (.ref a0), some (.int x1), some (.int x2), none] [] h 0 0
  obtain ⟨⟨res, h1⟩, hr, e⟩ := bd_inv e
  have hct := x_F_why (l := l) (D := D) (ad := ad) (aC := aC) hf hI k0 hr
  refine Go.run (pc' := 3) [.aload_n 0, .iload_n 1, .iload_n 2] (ls' := [some (.ref a0), some (.int x1), some (.int x2), none]) (st' := [.int x2, .int x1, .ref a0]) (by decide +kernel) rfl rfl ?_
  cases res with
  | inl v =>
    cases v with
    | none => exact no_none e
    | some w =>
      cases w with
      | int w =>
        obtain rfl := Option.some.inj e
        refine Go.callV (M2 := mr m_F_why (.inl (some (.int w)))) (a := a0) (as := [.int x1, .int x2]) (rest := []) (h1 := h1) (v := some (.int w)) hct (WV.mr wv_Q_why) k0 kc_7 (by decide +kernel) rfl rfl ⟨⟨Nat.le_of_ble_eq_true rfl, Nat.le_of_ble_eq_true rfl⟩, ⟨Nat.zero_le _, Nat.zero_le _⟩⟩ (Nat.le_of_ble_eq_true rfl) ?_
        show Go l D ad aC _ _ m_Q_why 6 [some (.ref a0), some (.int x1), some (.int x2), none] [.int w] h1 0 0
        refine Go.run (pc' := 7) [.i2l] (ls' := [some (.ref a0), some (.int x1), some (.int x2), none]) (st' := [.long w.toInt64]) (by decide +kernel) rfl rfl ?_
        exact Go.lret rfl (by decide) (by decide) (by decide +kernel)
      | long w => exact no_none e
      | float w => exact no_none e
      | double w => exact no_none e
      | null => exact no_none e
      | ref w => exact no_none e
      | retAddr w => exact no_none e
  | inr E =>
    unfold wrapL at e
    dsimp only at e
    rcases Decidable.em ((([("java/lang/IndexOutOfBoundsException", xIX), ("java/lang/IllegalArgumentException", xAR)] : List (String × Int64))[0]?).map (fun q => q.1) = some E) with z0 | z0
    · replace e := ite_t z0 e
      obtain rfl : "java/lang/IndexOutOfBoundsException" = E := Option.some.inj z0
      obtain rfl := Option.some.inj e
      refine Go.caught (M2 := mr m_F_why (.inr "java/lang/IndexOutOfBoundsException")) (a := a0) (as := [.int x1, .int x2]) (rest := []) (h1 := h1) (j := 3) (len := 1) hct (WV.mr wv_Q_why) k0 kc_7 (by decide +kernel) rfl rfl ⟨⟨Nat.le_of_ble_eq_true rfl, Nat.le_of_ble_eq_true rfl⟩, ⟨Nat.le_of_ble_eq_true rfl, Nat.le_of_ble_eq_true rfl⟩⟩ (Nat.le_of_ble_eq_true rfl) (by decide) [] ⟨0, 7, 8, 34⟩ [⟨0, 7, 13, 15⟩] rfl (fun z hz => nomatch hz) (by decide) (by decide) cl_IndexOutOfBoundsException ca_IndexOutOfBoundsException (Or.inr ⟨3, by decide +kernel, rfl, rfl⟩) rfl ?_
      show Go l D ad aC _ _ m_Q_why 9 [some (.ref a0), some (.int x1), some (.int x2), none] [] h1 1 6
      refine Go.ldc2 lx_Q_36 (by decide +kernel) ?_
      exact Go.lret rfl (by decide) (by decide) (by decide +kernel)
    replace e := ite_f z0 e
    rcases Decidable.em ((([("java/lang/IndexOutOfBoundsException", xIX), ("java/lang/IllegalArgumentException", xAR)] : List (String × Int64))[1]?).map (fun q => q.1) = some E) with z1 | z1
    · replace e := ite_t z1 e
      obtain rfl : "java/lang/IllegalArgumentException" = E := Option.some.inj z1
      obtain rfl := Option.some.inj e
      refine Go.caught (M2 := mr m_F_why (.inr "java/lang/IllegalArgumentException")) (a := a0) (as := [.int x1, .int x2]) (rest := []) (h1 := h1) (j := 3) (len := 1) hct (WV.mr wv_Q_why) k0 kc_7 (by decide +kernel) rfl rfl ⟨⟨Nat.le_of_ble_eq_true rfl, Nat.le_of_ble_eq_true rfl⟩, ⟨Nat.le_of_ble_eq_true rfl, Nat.le_of_ble_eq_true rfl⟩⟩ (Nat.le_of_ble_eq_true rfl) (by decide) [⟨0, 7, 8, 34⟩] ⟨0, 7, 13, 15⟩ [] rfl (fun z hz => by have e0 := List.mem_singleton.mp hz; subst e0; exact Or.inr ⟨by decide, "java/lang/IndexOutOfBoundsException", cl_IndexOutOfBoundsException, by decide⟩) (by decide) (by decide) cl_IllegalArgumentException ca_IllegalArgumentException (Or.inr ⟨3, by decide +kernel, rfl, rfl⟩) rfl ?_
      show Go l D ad aC _ _ m_Q_why 14 [some (.ref a0), some (.int x1), some (.int x2), none] [] h1 1 6
      refine Go.ldc2 lx_Q_17 (by decide +kernel) ?_
      exact Go.lret rfl (by decide) (by decide) (by decide +kernel)
    replace e := ite_f z1 e
    exact no_none e
def m_Q_script : MI := (⟨"FairWallsLaw", "script", "(LFairWalls;IJ)J"⟩, method_26_code, 5, (some .long), 9, 1, [(0, 7, 8, 15)])
theorem cw_Q_script : codeW m_Q_script ∈ GT := gtb 953 (by decide +kernel) (by decide +kernel)
theorem sw_Q_script : Cond.static m_Q_script.y ∈ GT := gtb 952 (by decide +kernel) (by decide +kernel)
theorem wv_Q_script : WV "FairWallsLaw" 93 m_F_runScript 2 := ⟨⟨gtb 954 (by decide +kernel) (by decide +kernel), iw_F_runScript, cw_F_runScript, rfl, by decide +kernel, by decide +kernel⟩, nw_F_runScript, vw_F_runScript⟩
def f_Q_script (h : HP) (a0 : Nat) (x1 : Int32) (y2 : Int64) : Option (Int64 × HP) := (f_F_runScript h a0 x1 y2).bind (wrapL [("java/lang/IllegalArgumentException", xAR)])
set_option maxHeartbeats 1000000 in
theorem x_Q_script {l : Launch} {D : va_G} {ad : Nat → Nat} {aC : Nat → ClassId} (hf : l.flags = flags0) (hI : Inj ad) {h : HP} {a0 : Nat} {x1 : Int32} {y2 : Int64} {r : Int64 × HP} (k0 : knd a0 = 7) (e : f_Q_script h a0 x1 y2 = some r) : CT l D ad aC m_Q_script [.ref a0, .int x1, .long y2] h (.inl (some (.long r.1))) r.2 := by
  refine CT.ofGoH (by decide +kernel) rfl (Nat.le_of_ble_eq_true rfl) ?_
  unfold f_Q_script at e
  show Go l D ad aC (rmk m_Q_script) _ m_Q_script 0 [some (.ref a0), some (.int x1), some (.long y2), none, none] [] h 0 0
  obtain ⟨⟨res, h1⟩, hr, e⟩ := bd_inv e
  have hct := x_F_runScript (l := l) (D := D) (ad := ad) (aC := aC) hf hI k0 hr
  refine Go.run (pc' := 3) [.aload_n 0, .iload_n 1, .lload_n 2] (ls' := [some (.ref a0), some (.int x1), some (.long y2), none, none]) (st' := [.long y2, .int x1, .ref a0]) (by decide +kernel) rfl rfl ?_
  cases res with
  | inl v =>
    cases v with
    | none => exact no_none e
    | some w =>
      cases w with
      | int w =>
        obtain rfl := Option.some.inj e
        refine Go.callV (M2 := mr m_F_runScript (.inl (some (.int w)))) (a := a0) (as := [.int x1, .long y2]) (rest := []) (h1 := h1) (v := some (.int w)) hct (WV.mr wv_Q_script) k0 kc_7 (by decide +kernel) rfl rfl ⟨⟨Nat.le_of_ble_eq_true rfl, Nat.le_of_ble_eq_true rfl⟩, ⟨Nat.zero_le _, Nat.zero_le _⟩⟩ (Nat.le_of_ble_eq_true rfl) ?_
        show Go l D ad aC _ _ m_Q_script 6 [some (.ref a0), some (.int x1), some (.long y2), none, none] [.int w] h1 0 0
        refine Go.run (pc' := 7) [.i2l] (ls' := [some (.ref a0), some (.int x1), some (.long y2), none, none]) (st' := [.long w.toInt64]) (by decide +kernel) rfl rfl ?_
        exact Go.lret rfl (by decide) (by decide) (by decide +kernel)
      | long w => exact no_none e
      | float w => exact no_none e
      | double w => exact no_none e
      | null => exact no_none e
      | ref w => exact no_none e
      | retAddr w => exact no_none e
  | inr E =>
    unfold wrapL at e
    dsimp only at e
    rcases Decidable.em ((([("java/lang/IllegalArgumentException", xAR)] : List (String × Int64))[0]?).map (fun q => q.1) = some E) with z0 | z0
    · replace e := ite_t z0 e
      obtain rfl : "java/lang/IllegalArgumentException" = E := Option.some.inj z0
      obtain rfl := Option.some.inj e
      refine Go.caught (M2 := mr m_F_runScript (.inr "java/lang/IllegalArgumentException")) (a := a0) (as := [.int x1, .long y2]) (rest := []) (h1 := h1) (j := 4) (len := 2) hct (WV.mr wv_Q_script) k0 kc_7 (by decide +kernel) rfl rfl ⟨⟨Nat.le_of_ble_eq_true rfl, Nat.le_of_ble_eq_true rfl⟩, ⟨Nat.le_of_ble_eq_true rfl, Nat.le_of_ble_eq_true rfl⟩⟩ (Nat.le_of_ble_eq_true rfl) (by decide) [] ⟨0, 7, 8, 15⟩ [] rfl (fun z hz => nomatch hz) (by decide) (by decide) cl_IllegalArgumentException ca_IllegalArgumentException (Or.inl ⟨by decide +kernel, rfl⟩) rfl ?_
      show Go l D ad aC _ _ m_Q_script 10 [some (.ref a0), some (.int x1), some (.long y2), none, none] [] h1 1 6
      refine Go.ldc2 lx_Q_17 (by decide +kernel) ?_
      exact Go.lret rfl (by decide) (by decide) (by decide +kernel)
    replace e := ite_f z0 e
    replace e := ite_f (show ¬ ((([("java/lang/IllegalArgumentException", xAR)] : List (String × Int64))[1]?).map (fun q => q.1) = some E) by simp) e
    exact no_none e
def m_Q_simulate : MI := (⟨"FairWallsLaw", "simulate", "(LFairWalls;JI)J"⟩, method_27_code, 5, (some .long), 9, 1, [(0, 7, 8, 15)])
theorem cw_Q_simulate : codeW m_Q_simulate ∈ GT := gtb 974 (by decide +kernel) (by decide +kernel)
theorem sw_Q_simulate : Cond.static m_Q_simulate.y ∈ GT := gtb 973 (by decide +kernel) (by decide +kernel)
theorem wv_Q_simulate : WV "FairWallsLaw" 97 m_F_simulate 2 := ⟨⟨gtb 975 (by decide +kernel) (by decide +kernel), iw_F_simulate, cw_F_simulate, rfl, by decide +kernel, by decide +kernel⟩, nw_F_simulate, vw_F_simulate⟩
def f_Q_simulate (h : HP) (a0 : Nat) (y1 : Int64) (x3 : Int32) : Option (Int64 × HP) := (f_F_simulate h a0 y1 x3).bind (wrapL [("java/lang/IllegalArgumentException", xAR)])
set_option maxHeartbeats 1000000 in
theorem x_Q_simulate {l : Launch} {D : va_G} {ad : Nat → Nat} {aC : Nat → ClassId} (hf : l.flags = flags0) (hI : Inj ad) {h : HP} {a0 : Nat} {y1 : Int64} {x3 : Int32} {r : Int64 × HP} (k0 : knd a0 = 7) (e : f_Q_simulate h a0 y1 x3 = some r) : CT l D ad aC m_Q_simulate [.ref a0, .long y1, .int x3] h (.inl (some (.long r.1))) r.2 := by
  refine CT.ofGoH (by decide +kernel) rfl (Nat.le_of_ble_eq_true rfl) ?_
  unfold f_Q_simulate at e
  show Go l D ad aC (rmk m_Q_simulate) _ m_Q_simulate 0 [some (.ref a0), some (.long y1), none, some (.int x3), none] [] h 0 0
  obtain ⟨⟨res, h1⟩, hr, e⟩ := bd_inv e
  have hct := x_F_simulate (l := l) (D := D) (ad := ad) (aC := aC) hf hI k0 hr
  refine Go.run (pc' := 3) [.aload_n 0, .lload_n 1, .iload_n 3] (ls' := [some (.ref a0), some (.long y1), none, some (.int x3), none]) (st' := [.int x3, .long y1, .ref a0]) (by decide +kernel) rfl rfl ?_
  cases res with
  | inl v =>
    cases v with
    | none => exact no_none e
    | some w =>
      cases w with
      | int w =>
        obtain rfl := Option.some.inj e
        refine Go.callV (M2 := mr m_F_simulate (.inl (some (.int w)))) (a := a0) (as := [.long y1, .int x3]) (rest := []) (h1 := h1) (v := some (.int w)) hct (WV.mr wv_Q_simulate) k0 kc_7 (by decide +kernel) rfl rfl ⟨⟨Nat.le_of_ble_eq_true rfl, Nat.le_of_ble_eq_true rfl⟩, ⟨Nat.zero_le _, Nat.zero_le _⟩⟩ (Nat.le_of_ble_eq_true rfl) ?_
        show Go l D ad aC _ _ m_Q_simulate 6 [some (.ref a0), some (.long y1), none, some (.int x3), none] [.int w] h1 0 0
        refine Go.run (pc' := 7) [.i2l] (ls' := [some (.ref a0), some (.long y1), none, some (.int x3), none]) (st' := [.long w.toInt64]) (by decide +kernel) rfl rfl ?_
        exact Go.lret rfl (by decide) (by decide) (by decide +kernel)
      | long w => exact no_none e
      | float w => exact no_none e
      | double w => exact no_none e
      | null => exact no_none e
      | ref w => exact no_none e
      | retAddr w => exact no_none e
  | inr E =>
    unfold wrapL at e
    dsimp only at e
    rcases Decidable.em ((([("java/lang/IllegalArgumentException", xAR)] : List (String × Int64))[0]?).map (fun q => q.1) = some E) with z0 | z0
    · replace e := ite_t z0 e
      obtain rfl : "java/lang/IllegalArgumentException" = E := Option.some.inj z0
      obtain rfl := Option.some.inj e
      refine Go.caught (M2 := mr m_F_simulate (.inr "java/lang/IllegalArgumentException")) (a := a0) (as := [.long y1, .int x3]) (rest := []) (h1 := h1) (j := 4) (len := 2) hct (WV.mr wv_Q_simulate) k0 kc_7 (by decide +kernel) rfl rfl ⟨⟨Nat.le_of_ble_eq_true rfl, Nat.le_of_ble_eq_true rfl⟩, ⟨Nat.le_of_ble_eq_true rfl, Nat.le_of_ble_eq_true rfl⟩⟩ (Nat.le_of_ble_eq_true rfl) (by decide) [] ⟨0, 7, 8, 15⟩ [] rfl (fun z hz => nomatch hz) (by decide) (by decide) cl_IllegalArgumentException ca_IllegalArgumentException (Or.inl ⟨by decide +kernel, rfl⟩) rfl ?_
      show Go l D ad aC _ _ m_Q_simulate 10 [some (.ref a0), some (.long y1), none, some (.int x3), none] [] h1 1 6
      refine Go.ldc2 lx_Q_17 (by decide +kernel) ?_
      exact Go.lret rfl (by decide) (by decide) (by decide +kernel)
    replace e := ite_f z0 e
    replace e := ite_f (show ¬ ((([("java/lang/IllegalArgumentException", xAR)] : List (String × Int64))[1]?).map (fun q => q.1) = some E) by simp) e
    exact no_none e
def m_Q_save : MI := (⟨"FairWallsLaw", "save", "(LFairWalls;I)J"⟩, method_28_code, 3, (some .long), 9, 1, [(0, 6, 7, 34)])
theorem cw_Q_save : codeW m_Q_save ∈ GT := gtb 594 (by decide +kernel) (by decide +kernel)
theorem sw_Q_save : Cond.static m_Q_save.y ∈ GT := gtb 593 (by decide +kernel) (by decide +kernel)
theorem wv_Q_save : WV "FairWallsLaw" 101 m_F_save 1 := ⟨⟨gtb 596 (by decide +kernel) (by decide +kernel), iw_F_save, cw_F_save, rfl, by decide +kernel, by decide +kernel⟩, nw_F_save, vw_F_save⟩
def f_Q_save (h : HP) (a0 : Nat) (x1 : Int32) : Option (Int64 × HP) := (f_F_save h a0 x1).bind (wrapL [("java/lang/IndexOutOfBoundsException", xIX)])
set_option maxHeartbeats 1000000 in
theorem x_Q_save {l : Launch} {D : va_G} {ad : Nat → Nat} {aC : Nat → ClassId} (hf : l.flags = flags0) (hI : Inj ad) {h : HP} {a0 : Nat} {x1 : Int32} {r : Int64 × HP} (k0 : knd a0 = 7) (e : f_Q_save h a0 x1 = some r) : CT l D ad aC m_Q_save [.ref a0, .int x1] h (.inl (some (.long r.1))) r.2 := by
  refine CT.ofGoH (by decide +kernel) rfl (Nat.le_of_ble_eq_true rfl) ?_
  unfold f_Q_save at e
  show Go l D ad aC (rmk m_Q_save) _ m_Q_save 0 [some (.ref a0), some (.int x1), none] [] h 0 0
  obtain ⟨⟨res, h1⟩, hr, e⟩ := bd_inv e
  have hct := x_F_save (l := l) (D := D) (ad := ad) (aC := aC) hf hI k0 hr
  refine Go.run (pc' := 2) [.aload_n 0, .iload_n 1] (ls' := [some (.ref a0), some (.int x1), none]) (st' := [.int x1, .ref a0]) (by decide +kernel) rfl rfl ?_
  cases res with
  | inl v =>
    cases v with
    | none => exact no_none e
    | some w =>
      cases w with
      | int w =>
        obtain rfl := Option.some.inj e
        refine Go.callV (M2 := mr m_F_save (.inl (some (.int w)))) (a := a0) (as := [.int x1]) (rest := []) (h1 := h1) (v := some (.int w)) hct (WV.mr wv_Q_save) k0 kc_7 (by decide +kernel) rfl rfl ⟨⟨Nat.le_of_ble_eq_true rfl, Nat.le_of_ble_eq_true rfl⟩, ⟨Nat.zero_le _, Nat.zero_le _⟩⟩ (Nat.le_of_ble_eq_true rfl) ?_
        show Go l D ad aC _ _ m_Q_save 5 [some (.ref a0), some (.int x1), none] [.int w] h1 0 0
        refine Go.run (pc' := 6) [.i2l] (ls' := [some (.ref a0), some (.int x1), none]) (st' := [.long w.toInt64]) (by decide +kernel) rfl rfl ?_
        exact Go.lret rfl (by decide) (by decide) (by decide +kernel)
      | long w => exact no_none e
      | float w => exact no_none e
      | double w => exact no_none e
      | null => exact no_none e
      | ref w => exact no_none e
      | retAddr w => exact no_none e
  | inr E =>
    unfold wrapL at e
    dsimp only at e
    rcases Decidable.em ((([("java/lang/IndexOutOfBoundsException", xIX)] : List (String × Int64))[0]?).map (fun q => q.1) = some E) with z0 | z0
    · replace e := ite_t z0 e
      obtain rfl : "java/lang/IndexOutOfBoundsException" = E := Option.some.inj z0
      obtain rfl := Option.some.inj e
      refine Go.caught (M2 := mr m_F_save (.inr "java/lang/IndexOutOfBoundsException")) (a := a0) (as := [.int x1]) (rest := []) (h1 := h1) (j := 2) (len := 1) hct (WV.mr wv_Q_save) k0 kc_7 (by decide +kernel) rfl rfl ⟨⟨Nat.le_of_ble_eq_true rfl, Nat.le_of_ble_eq_true rfl⟩, ⟨Nat.le_of_ble_eq_true rfl, Nat.le_of_ble_eq_true rfl⟩⟩ (Nat.le_of_ble_eq_true rfl) (by decide) [] ⟨0, 6, 7, 34⟩ [] rfl (fun z hz => nomatch hz) (by decide) (by decide) cl_IndexOutOfBoundsException ca_IndexOutOfBoundsException (Or.inr ⟨2, by decide +kernel, rfl, rfl⟩) rfl ?_
      show Go l D ad aC _ _ m_Q_save 8 [some (.ref a0), some (.int x1), none] [] h1 1 6
      refine Go.ldc2 lx_Q_36 (by decide +kernel) ?_
      exact Go.lret rfl (by decide) (by decide) (by decide +kernel)
    replace e := ite_f z0 e
    replace e := ite_f (show ¬ ((([("java/lang/IndexOutOfBoundsException", xIX)] : List (String × Int64))[1]?).map (fun q => q.1) = some E) by simp) e
    exact no_none e
def m_Q_restore : MI := (⟨"FairWallsLaw", "restore", "(LFairWalls;I)J"⟩, method_29_code, 3, (some .long), 9, 1, [(0, 6, 7, 34), (0, 6, 12, 19)])
theorem cw_Q_restore : codeW m_Q_restore ∈ GT := gtb 632 (by decide +kernel) (by decide +kernel)
theorem sw_Q_restore : Cond.static m_Q_restore.y ∈ GT := gtb 631 (by decide +kernel) (by decide +kernel)
theorem wv_Q_restore : WV "FairWallsLaw" 104 m_F_restore 1 := ⟨⟨gtb 633 (by decide +kernel) (by decide +kernel), iw_F_restore, cw_F_restore, rfl, by decide +kernel, by decide +kernel⟩, nw_F_restore, vw_F_restore⟩
def f_Q_restore (h : HP) (a0 : Nat) (x1 : Int32) : Option (Int64 × HP) := (f_F_restore h a0 x1).bind (wrapL [("java/lang/IndexOutOfBoundsException", xIX), ("java/lang/IllegalStateException", xST)])
set_option maxHeartbeats 1000000 in
theorem x_Q_restore {l : Launch} {D : va_G} {ad : Nat → Nat} {aC : Nat → ClassId} (hf : l.flags = flags0) (hI : Inj ad) {h : HP} {a0 : Nat} {x1 : Int32} {r : Int64 × HP} (k0 : knd a0 = 7) (e : f_Q_restore h a0 x1 = some r) : CT l D ad aC m_Q_restore [.ref a0, .int x1] h (.inl (some (.long r.1))) r.2 := by
  refine CT.ofGoH (by decide +kernel) rfl (Nat.le_of_ble_eq_true rfl) ?_
  unfold f_Q_restore at e
  show Go l D ad aC (rmk m_Q_restore) _ m_Q_restore 0 [some (.ref a0), some (.int x1), none] [] h 0 0
  obtain ⟨⟨res, h1⟩, hr, e⟩ := bd_inv e
  have hct := x_F_restore (l := l) (D := D) (ad := ad) (aC := aC) hf hI k0 hr
  refine Go.run (pc' := 2) [.aload_n 0, .iload_n 1] (ls' := [some (.ref a0), some (.int x1), none]) (st' := [.int x1, .ref a0]) (by decide +kernel) rfl rfl ?_
  cases res with
  | inl v =>
    cases v with
    | none => exact no_none e
    | some w =>
      cases w with
      | int w =>
        obtain rfl := Option.some.inj e
        refine Go.callV (M2 := mr m_F_restore (.inl (some (.int w)))) (a := a0) (as := [.int x1]) (rest := []) (h1 := h1) (v := some (.int w)) hct (WV.mr wv_Q_restore) k0 kc_7 (by decide +kernel) rfl rfl ⟨⟨Nat.le_of_ble_eq_true rfl, Nat.le_of_ble_eq_true rfl⟩, ⟨Nat.zero_le _, Nat.zero_le _⟩⟩ (Nat.le_of_ble_eq_true rfl) ?_
        show Go l D ad aC _ _ m_Q_restore 5 [some (.ref a0), some (.int x1), none] [.int w] h1 0 0
        refine Go.run (pc' := 6) [.i2l] (ls' := [some (.ref a0), some (.int x1), none]) (st' := [.long w.toInt64]) (by decide +kernel) rfl rfl ?_
        exact Go.lret rfl (by decide) (by decide) (by decide +kernel)
      | long w => exact no_none e
      | float w => exact no_none e
      | double w => exact no_none e
      | null => exact no_none e
      | ref w => exact no_none e
      | retAddr w => exact no_none e
  | inr E =>
    unfold wrapL at e
    dsimp only at e
    rcases Decidable.em ((([("java/lang/IndexOutOfBoundsException", xIX), ("java/lang/IllegalStateException", xST)] : List (String × Int64))[0]?).map (fun q => q.1) = some E) with z0 | z0
    · replace e := ite_t z0 e
      obtain rfl : "java/lang/IndexOutOfBoundsException" = E := Option.some.inj z0
      obtain rfl := Option.some.inj e
      refine Go.caught (M2 := mr m_F_restore (.inr "java/lang/IndexOutOfBoundsException")) (a := a0) (as := [.int x1]) (rest := []) (h1 := h1) (j := 2) (len := 1) hct (WV.mr wv_Q_restore) k0 kc_7 (by decide +kernel) rfl rfl ⟨⟨Nat.le_of_ble_eq_true rfl, Nat.le_of_ble_eq_true rfl⟩, ⟨Nat.le_of_ble_eq_true rfl, Nat.le_of_ble_eq_true rfl⟩⟩ (Nat.le_of_ble_eq_true rfl) (by decide) [] ⟨0, 6, 7, 34⟩ [⟨0, 6, 12, 19⟩] rfl (fun z hz => nomatch hz) (by decide) (by decide) cl_IndexOutOfBoundsException ca_IndexOutOfBoundsException (Or.inr ⟨2, by decide +kernel, rfl, rfl⟩) rfl ?_
      show Go l D ad aC _ _ m_Q_restore 8 [some (.ref a0), some (.int x1), none] [] h1 1 6
      refine Go.ldc2 lx_Q_36 (by decide +kernel) ?_
      exact Go.lret rfl (by decide) (by decide) (by decide +kernel)
    replace e := ite_f z0 e
    rcases Decidable.em ((([("java/lang/IndexOutOfBoundsException", xIX), ("java/lang/IllegalStateException", xST)] : List (String × Int64))[1]?).map (fun q => q.1) = some E) with z1 | z1
    · replace e := ite_t z1 e
      obtain rfl : "java/lang/IllegalStateException" = E := Option.some.inj z1
      obtain rfl := Option.some.inj e
      refine Go.caught (M2 := mr m_F_restore (.inr "java/lang/IllegalStateException")) (a := a0) (as := [.int x1]) (rest := []) (h1 := h1) (j := 2) (len := 1) hct (WV.mr wv_Q_restore) k0 kc_7 (by decide +kernel) rfl rfl ⟨⟨Nat.le_of_ble_eq_true rfl, Nat.le_of_ble_eq_true rfl⟩, ⟨Nat.le_of_ble_eq_true rfl, Nat.le_of_ble_eq_true rfl⟩⟩ (Nat.le_of_ble_eq_true rfl) (by decide) [⟨0, 6, 7, 34⟩] ⟨0, 6, 12, 19⟩ [] rfl (fun z hz => by have e0 := List.mem_singleton.mp hz; subst e0; exact Or.inr ⟨by decide, "java/lang/IndexOutOfBoundsException", cl_IndexOutOfBoundsException, by decide⟩) (by decide) (by decide) cl_IllegalStateException ca_IllegalStateException (Or.inr ⟨2, by decide +kernel, rfl, rfl⟩) rfl ?_
      show Go l D ad aC _ _ m_Q_restore 13 [some (.ref a0), some (.int x1), none] [] h1 1 6
      refine Go.ldc2 lx_Q_21 (by decide +kernel) ?_
      exact Go.lret rfl (by decide) (by decide) (by decide +kernel)
    replace e := ite_f z1 e
    exact no_none e
